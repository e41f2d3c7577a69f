abbrev si_X9_may : SI := (cX9_may, RX9, 2, (some .int), 1, 21)
def f_X9_may (p1 : Int32) (d : DD) : Option (Int32 × DD) :=
  (f_X1_hasPerson 2 p1 d).bind fun q1 =>
  if q1.1 = 0 then
  some ((-1 : Int32), q1.2)
  else
  (f_X9_at 8 p1 q1.2).bind fun q2 =>
    some (q2.1, q2.2)
set_option maxRecDepth 100000 in
set_option maxHeartbeats 4000000 in
theorem am_X9_may (p1 : Int32) (d : DD) : AM wrI mi_X9_may 1 21 [.ref 0, .int p1] d (f_X9_may p1 d) := by
  refine AM_intro (si := si_X9_may) (lv := [(0, .ref 0), (1, .int p1)]) rfl (by decide +kernel) rfl (Nat.le_of_ble_eq_true rfl) (fun E => ?_)
  unfold f_X9_may
  refine r_aload_n_0 dX9_may_0 rfl ?_
  refine r_getr (t := 2) (cc := 9) 3 rfl rfl uX9 (by decide) rfl fw_X9_23 rfl dX9_may_1 ?_
  refine r_iload_n_1 dX9_may_4 rfl ?_
  refine r_callVI (cc := 1) [] (am_X1_hasPerson 2 rfl p1 d) rfl rfl cf_X1_hasPerson mw_X9_147 (by decide) dX9_may_5 rfl (Nat.le_of_ble_eq_true rfl) ⟨rfl, rfl⟩ (fun q1 => ?_)
  refine r_if_eq (tgt := 25) dX9_may_8 (by decide) ?_ ?_
  · refine r_iconst dX9_may_25 ki_m1 ?_
    exact r_ireturn dX9_may_26 rfl
  · refine r_aload_n_0 dX9_may_11 rfl ?_
    refine r_getr (t := 2) (cc := 9) 3 rfl rfl uX9 (by decide) rfl fw_X9_23 rfl dX9_may_12 ?_
    refine r_getr (t := 8) (cc := 1) 7 rfl rfl uX1 (by decide) rfl fw_X9_150 rfl dX9_may_15 ?_
    refine r_iload_n_1 dX9_may_18 rfl ?_
    refine r_callSI [] (am_X9_at 8 rfl p1 q1.2) cf_X9_at mw_X9_123 (by decide) dX9_may_19 rfl (Nat.le_of_ble_eq_true rfl) ⟨rfl, rfl⟩ (fun q2 => ?_)
    refine r_goto (tgt := 26) dX9_may_22 (by decide) ?_
    exact r_ireturn dX9_may_26 rfl
theorem cf_X9_may : CFv mi_X9_may 1 := ⟨iw_X9_may, vw_X9_may, nw_X9, cw_X9_may, by unfold plainF; decide +kernel⟩
abbrev si_X9_next : SI := (cX9_next, RX9, 8, (some .int), 6, 135)
def f_X9_next_90 (k36 : Int32 → Int64 → Int32 → DD → Option (Int32 × DD)) (k51 : Int32 → Int64 → Int32 → Int32 → DD → Option (Int32 × DD)) (v4 : Int32) (v5 : Int32) (v6 : Int64) (d : DD) : Option (Int32 × DD) :=
  bd (((100 : Int32) * v4) + v5) fun x5 =>
  k51 x5 v6 v4 (v5 + (1 : Int32)) d
set_option maxRecDepth 100000 in
set_option maxHeartbeats 4000000 in
theorem w_X9_next_90 {E : XE} (k36 : Int32 → Int64 → Int32 → DD → Option (Int32 × DD)) (hk36 : ∀ (v1 : Int32) (v2 : Int64) (v4 : Int32) (d : DD), AW E si_X9_next 0 0 (QM E wrI) (k36 v1 v2 v4 d) 36 [(0, .ref 0), (1, .int v1), (2, .long v2), (4, .int v4)] [] d) (k51 : Int32 → Int64 → Int32 → Int32 → DD → Option (Int32 × DD)) (hk51 : ∀ (v1 : Int32) (v2 : Int64) (v4 : Int32) (v5 : Int32) (d : DD), AW E si_X9_next 0 0 (QM E wrI) (k51 v1 v2 v4 v5 d) 51 [(0, .ref 0), (1, .int v1), (2, .long v2), (4, .int v4), (5, .int v5)] [] d) (v4 : Int32) (v5 : Int32) (v6 : Int64) (d : DD) : AW E si_X9_next 0 0 (QM E wrI) (f_X9_next_90 k36 k51 v4 v5 v6 d) 90 [(0, .ref 0), (4, .int v4), (5, .int v5), (6, .long v6)] [] d := by
  unfold f_X9_next_90
  refine r_bipush dX9_next_90 kb_100 ?_
  refine r_iload_w_1 dX9_next_92 ?_
  refine r_imul dX9_next_94 ?_
  refine r_iload_w_2 dX9_next_95 ?_
  refine r_iadd dX9_next_97 ?_
  refine r_bdI (fun x5 => ?_)
  refine r_istore_n_x dX9_next_98 rfl (by decide) rfl ?_
  refine r_lload_w_4 dX9_next_99 ?_
  refine r_lstore_n_x dX9_next_101 rfl (by decide) rfl ?_
  refine r_iinc_4 dX9_next_102 ki_1 (by decide) rfl ?_
  refine r_goto (tgt := 51) dX9_next_105 (by decide) ?_
  refine r_sub [2, 1, 0, 3, 4] (lv' := [(0, .ref 0), (1, .int x5), (2, .long v6), (4, .int v4), (5, .int (v5 + (1 : Int32)))]) rfl ?_
  exact hk51 x5 v6 v4 (v5 + (1 : Int32)) d
def f_X9_next_51B (k36 : Int32 → Int64 → Int32 → DD → Option (Int32 × DD)) (k51 : Int32 → Int64 → Int32 → Int32 → DD → Option (Int32 × DD)) (v1 : Int32) (v2 : Int64) (v4 : Int32) (v5 : Int32) (d : DD) : Option (Int32 × DD) :=
  if v5 < (30 : Int32) then
  (f_X8_spread v4 v5 d).bind fun q3 =>
    (f_X8_greatest q3.2).bind fun q4 =>
    if v1 = (-1 : Int32) then
    f_X9_next_90 k36 k51 v4 v5 q4.1 q4.2
    else
    if q4.1 < v2 then
      f_X9_next_90 k36 k51 v4 v5 q4.1 q4.2
      else
      k51 v1 v2 v4 (v5 + (1 : Int32)) q4.2
  else
  k36 v1 v2 (v4 + (1 : Int32)) d
def f_X9_next_51 (k36 : Int32 → Int64 → Int32 → DD → Option (Int32 × DD)) : Nat → Int32 → Int64 → Int32 → Int32 → DD → Option (Int32 × DD)
  | 0, _, _, _, _, _ => none
  | n + 1, v1, v2, v4, v5, d => f_X9_next_51B k36 (f_X9_next_51 k36 n) v1 v2 v4 v5 d
set_option maxRecDepth 100000 in
set_option maxHeartbeats 4000000 in
theorem w_X9_next_51B {E : XE} (k36 : Int32 → Int64 → Int32 → DD → Option (Int32 × DD)) (hk36 : ∀ (v1 : Int32) (v2 : Int64) (v4 : Int32) (d : DD), AW E si_X9_next 0 0 (QM E wrI) (k36 v1 v2 v4 d) 36 [(0, .ref 0), (1, .int v1), (2, .long v2), (4, .int v4)] [] d) (k51 : Int32 → Int64 → Int32 → Int32 → DD → Option (Int32 × DD)) (hk51 : ∀ (v1 : Int32) (v2 : Int64) (v4 : Int32) (v5 : Int32) (d : DD), AW E si_X9_next 0 0 (QM E wrI) (k51 v1 v2 v4 v5 d) 51 [(0, .ref 0), (1, .int v1), (2, .long v2), (4, .int v4), (5, .int v5)] [] d) (v1 : Int32) (v2 : Int64) (v4 : Int32) (v5 : Int32) (d : DD) : AW E si_X9_next 0 0 (QM E wrI) (f_X9_next_51B k36 k51 v1 v2 v4 v5 d) 51 [(0, .ref 0), (1, .int v1), (2, .long v2), (4, .int v4), (5, .int v5)] [] d := by
  unfold f_X9_next_51B
  refine r_iload_w_4 dX9_next_51 ?_
  refine r_bipush dX9_next_53 kb_30 ?_
  refine r_icmp_ge (tgt := 108) dX9_next_55 (by decide) ?_ ?_
  · refine r_iinc_3 dX9_next_108 ki_1 (by decide) rfl ?_
    refine r_goto (tgt := 36) dX9_next_111 (by decide) ?_
    refine r_sub [0, 1, 2, 3] (lv' := [(0, .ref 0), (1, .int v1), (2, .long v2), (4, .int (v4 + (1 : Int32)))]) rfl ?_
    exact hk36 v1 v2 (v4 + (1 : Int32)) d
  · refine r_aload_n_0 dX9_next_58 rfl ?_
    refine r_getr (t := 72) (cc := 9) 11 rfl rfl uX9 (by decide) rfl fw_X9_71 rfl dX9_next_59 ?_
    refine r_iload_w_3 dX9_next_62 ?_
    refine r_iload_w_4 dX9_next_64 ?_
    refine r_callVU (cc := 8) [] (am_X8_spread v4 v5 d) rfl rfl cf_X8_spread mw_X9_262 (by decide) dX9_next_66 rfl (Nat.le_of_ble_eq_true rfl) ⟨rfl, rfl⟩ (fun q3 => ?_)
    refine r_aload_n_0 dX9_next_69 rfl ?_
    refine r_getr (t := 72) (cc := 9) 11 rfl rfl uX9 (by decide) rfl fw_X9_71 rfl dX9_next_70 ?_
    refine r_callVL (cc := 8) [] (am_X8_greatest q3.2) rfl rfl cf_X8_greatest mw_X9_274 (by decide) dX9_next_73 rfl (Nat.le_of_ble_eq_true rfl) ⟨rfl, rfl⟩ (fun q4 => ?_)
    refine r_lstore_w_x dX9_next_76 (by decide) rfl ?_
    refine r_iload_n_2 dX9_next_78 rfl ?_
    refine r_iconst dX9_next_79 ki_m1 ?_
    refine r_icmp_eq (tgt := 90) dX9_next_80 (by decide) ?_ ?_
    · refine r_sub [1, 4, 5, 0] (lv' := [(0, .ref 0), (4, .int v4), (5, .int v5), (6, .long q4.1)]) rfl ?_
      exact w_X9_next_90 k36 hk36 k51 hk51 v4 v5 q4.1 q4.2
    · refine r_lload_w_0 dX9_next_83 ?_
      refine r_lload_n_3 dX9_next_85 rfl ?_
      refine r_lcmp_ge (tgt := 102) dX9_next_86 dX9_next_87 (by decide) ?_ ?_
      · refine r_iinc_5 dX9_next_102 ki_1 (by decide) rfl ?_
        refine r_goto (tgt := 51) dX9_next_105 (by decide) ?_
        refine r_sub [1, 2, 3, 4, 5] (lv' := [(0, .ref 0), (1, .int v1), (2, .long v2), (4, .int v4), (5, .int (v5 + (1 : Int32)))]) rfl ?_
        exact hk51 v1 v2 v4 (v5 + (1 : Int32)) q4.2
      · refine r_sub [1, 4, 5, 0] (lv' := [(0, .ref 0), (4, .int v4), (5, .int v5), (6, .long q4.1)]) rfl ?_
        exact w_X9_next_90 k36 hk36 k51 hk51 v4 v5 q4.1 q4.2
theorem w_X9_next_51 {E : XE} (k36 : Int32 → Int64 → Int32 → DD → Option (Int32 × DD)) (hk36 : ∀ (v1 : Int32) (v2 : Int64) (v4 : Int32) (d : DD), AW E si_X9_next 0 0 (QM E wrI) (k36 v1 v2 v4 d) 36 [(0, .ref 0), (1, .int v1), (2, .long v2), (4, .int v4)] [] d) (n : Nat) : ∀ (v1 : Int32) (v2 : Int64) (v4 : Int32) (v5 : Int32) (d : DD), AW E si_X9_next 0 0 (QM E wrI) (f_X9_next_51 k36 n v1 v2 v4 v5 d) 51 [(0, .ref 0), (1, .int v1), (2, .long v2), (4, .int v4), (5, .int v5)] [] d := by
  induction n with
  | zero => intros; exact r_none
  | succ n ih => intro v1 v2 v4 v5 d; exact w_X9_next_51B k36 hk36 (f_X9_next_51 k36 n) ih v1 v2 v4 v5 d
def f_X9_next_36B (k36 : Int32 → Int64 → Int32 → DD → Option (Int32 × DD)) (v1 : Int32) (v2 : Int64) (v4 : Int32) (d : DD) : Option (Int32 × DD) :=
  if v4 < (d.1 2 1) then
  f_X9_next_51 k36 FU v1 v2 v4 (0 : Int32) d
  else
  some (v1, d)
def f_X9_next_36 : Nat → Int32 → Int64 → Int32 → DD → Option (Int32 × DD)
  | 0, _, _, _, _ => none
  | n + 1, v1, v2, v4, d => f_X9_next_36B (f_X9_next_36 n) v1 v2 v4 d
set_option maxRecDepth 100000 in
set_option maxHeartbeats 4000000 in
theorem w_X9_next_36B {E : XE} (k36 : Int32 → Int64 → Int32 → DD → Option (Int32 × DD)) (hk36 : ∀ (v1 : Int32) (v2 : Int64) (v4 : Int32) (d : DD), AW E si_X9_next 0 0 (QM E wrI) (k36 v1 v2 v4 d) 36 [(0, .ref 0), (1, .int v1), (2, .long v2), (4, .int v4)] [] d) (v1 : Int32) (v2 : Int64) (v4 : Int32) (d : DD) : AW E si_X9_next 0 0 (QM E wrI) (f_X9_next_36B k36 v1 v2 v4 d) 36 [(0, .ref 0), (1, .int v1), (2, .long v2), (4, .int v4)] [] d := by
  unfold f_X9_next_36B
  refine r_iload_w_3 dX9_next_36 ?_
  refine r_aload_n_0 dX9_next_38 rfl ?_
  refine r_getr (t := 2) (cc := 9) 3 rfl rfl uX9 (by decide) rfl fw_X9_23 rfl dX9_next_39 ?_
  refine r_geti (cc := 1) 1 rfl rfl uX1 (by decide) rfl fw_X9_234 dX9_next_42 ?_
  refine r_icmp_ge (tgt := 114) dX9_next_45 (by decide) ?_ ?_
  · refine r_iload_n_1 dX9_next_114 rfl ?_
    exact r_ireturn dX9_next_115 rfl
  · refine r_iconst dX9_next_48 ki_0 ?_
    refine r_istore_w_x dX9_next_49 (by decide) rfl ?_
    refine r_sub [1, 2, 3, 4, 0] (lv' := [(0, .ref 0), (1, .int v1), (2, .long v2), (4, .int v4), (5, .int (0 : Int32))]) rfl ?_
    exact w_X9_next_51 k36 hk36 FU v1 v2 v4 (0 : Int32) d
theorem w_X9_next_36 {E : XE} (n : Nat) : ∀ (v1 : Int32) (v2 : Int64) (v4 : Int32) (d : DD), AW E si_X9_next 0 0 (QM E wrI) (f_X9_next_36 n v1 v2 v4 d) 36 [(0, .ref 0), (1, .int v1), (2, .long v2), (4, .int v4)] [] d := by
  induction n with
  | zero => intros; exact r_none
  | succ n ih => intro v1 v2 v4 d; exact w_X9_next_36B (f_X9_next_36 n) ih v1 v2 v4 d
def f_X9_next (d : DD) : Option (Int32 × DD) :=
  (f_X8_gatherAll d).bind fun q1 =>
  if (q1.2.1 2 1) = 0 then
  some ((-1 : Int32), q1.2)
  else
  (f_X8_isEmpty q1.2).bind fun q2 =>
    if q2.1 = 0 then
    f_X9_next_36 FU (-1 : Int32) (0 : Int64) (0 : Int32) q2.2
    else
    some ((-1 : Int32), q2.2)
set_option maxRecDepth 100000 in
set_option maxHeartbeats 4000000 in
theorem am_X9_next (d : DD) : AM wrI mi_X9_next 6 135 [.ref 0] d (f_X9_next d) := by
  refine AM_intro (si := si_X9_next) (lv := [(0, .ref 0)]) rfl (by decide +kernel) rfl (Nat.le_of_ble_eq_true rfl) (fun E => ?_)
  unfold f_X9_next
  refine r_aload_n_0 dX9_next_0 rfl ?_
  refine r_getr (t := 72) (cc := 9) 11 rfl rfl uX9 (by decide) rfl fw_X9_71 rfl dX9_next_1 ?_
  refine r_callVU (cc := 8) [] (am_X8_gatherAll d) rfl rfl cf_X8_gatherAll mw_X9_186 (by decide) dX9_next_4 rfl (Nat.le_of_ble_eq_true rfl) ⟨rfl, rfl⟩ (fun q1 => ?_)
  refine r_aload_n_0 dX9_next_7 rfl ?_
  refine r_getr (t := 2) (cc := 9) 3 rfl rfl uX9 (by decide) rfl fw_X9_23 rfl dX9_next_8 ?_
  refine r_geti (cc := 1) 1 rfl rfl uX1 (by decide) rfl fw_X9_234 dX9_next_11 ?_
  refine r_if_eq (tgt := 27) dX9_next_14 (by decide) ?_ ?_
  · refine r_iconst dX9_next_27 ki_m1 ?_
    exact r_ireturn dX9_next_28 rfl
  · refine r_aload_n_0 dX9_next_17 rfl ?_
    refine r_getr (t := 72) (cc := 9) 11 rfl rfl uX9 (by decide) rfl fw_X9_71 rfl dX9_next_18 ?_
    refine r_callVI (cc := 8) [] (am_X8_isEmpty q1.2) rfl rfl cf_X8_isEmpty mw_X9_211 (by decide) dX9_next_21 rfl (Nat.le_of_ble_eq_true rfl) ⟨rfl, rfl⟩ (fun q2 => ?_)
    refine r_if_eq (tgt := 29) dX9_next_24 (by decide) ?_ ?_
    · refine r_iconst dX9_next_29 ki_m1 ?_
      refine r_istore_n_x dX9_next_30 rfl (by decide) rfl ?_
      refine r_lconst dX9_next_31 kl_0 ?_
      refine r_lstore_n_x dX9_next_32 rfl (by decide) rfl ?_
      refine r_iconst dX9_next_33 ki_0 ?_
      refine r_istore_w_x dX9_next_34 (by decide) rfl ?_
      refine r_sub [3, 2, 1, 0] (lv' := [(0, .ref 0), (1, .int (-1 : Int32)), (2, .long (0 : Int64)), (4, .int (0 : Int32))]) rfl ?_
      exact w_X9_next_36 FU (-1 : Int32) (0 : Int64) (0 : Int32) q2.2
    · refine r_iconst dX9_next_27 ki_m1 ?_
      exact r_ireturn dX9_next_28 rfl
theorem cf_X9_next : CFv mi_X9_next 0 := ⟨iw_X9_next, vw_X9_next, nw_X9, cw_X9_next, by unfold plainF; decide +kernel⟩
abbrev si_X9_passes : SI := (cX9_passes, RX9, 4, (some .int), 3, 66)
def f_X9_passes (p1 : Int32) (p2 : Int32) (p3 : Int32) (d : DD) : Option (Int32 × DD) :=
  (f_X1_hasKind 2 p1 d).bind fun q1 =>
  if q1.1 = 0 then
  some ((-1 : Int32), q1.2)
  else
  (f_X1_hasTimetable 2 p1 p2 q1.2).bind fun q2 =>
    if q2.1 = 0 then
    some ((-1 : Int32), q2.2)
    else
    (f_X9_isHour p3 q2.2).bind fun q3 =>
      if q3.1 = 0 then
      some ((-1 : Int32), q3.2)
      else
      (f_X1_passing 2 p1 p3 q3.2).bind fun q4 =>
        some (((lushr q4.1 p2).toInt32) &&& (1 : Int32), q4.2)
set_option maxRecDepth 100000 in
set_option maxHeartbeats 4000000 in
theorem am_X9_passes (p1 : Int32) (p2 : Int32) (p3 : Int32) (d : DD) : AM wrI mi_X9_passes 3 66 [.ref 0, .int p1, .int p2, .int p3] d (f_X9_passes p1 p2 p3 d) := by
  refine AM_intro (si := si_X9_passes) (lv := [(0, .ref 0), (1, .int p1), (2, .int p2), (3, .int p3)]) rfl (by decide +kernel) rfl (Nat.le_of_ble_eq_true rfl) (fun E => ?_)
  unfold f_X9_passes
  refine r_aload_n_0 dX9_passes_0 rfl ?_
  refine r_getr (t := 2) (cc := 9) 3 rfl rfl uX9 (by decide) rfl fw_X9_23 rfl dX9_passes_1 ?_
  refine r_iload_n_1 dX9_passes_4 rfl ?_
  refine r_callVI (cc := 1) [] (am_X1_hasKind 2 rfl p1 d) rfl rfl cf_X1_hasKind mw_X9_113 (by decide) dX9_passes_5 rfl (Nat.le_of_ble_eq_true rfl) ⟨rfl, rfl⟩ (fun q1 => ?_)
  refine r_if_eq (tgt := 30) dX9_passes_8 (by decide) ?_ ?_
  · refine r_iconst dX9_passes_30 ki_m1 ?_
    exact r_ireturn dX9_passes_31 rfl
  · refine r_aload_n_0 dX9_passes_11 rfl ?_
    refine r_getr (t := 2) (cc := 9) 3 rfl rfl uX9 (by decide) rfl fw_X9_23 rfl dX9_passes_12 ?_
    refine r_iload_n_1 dX9_passes_15 rfl ?_
    refine r_iload_n_2 dX9_passes_16 rfl ?_
    refine r_callVI (cc := 1) [] (am_X1_hasTimetable 2 rfl p1 p2 q1.2) rfl rfl cf_X1_hasTimetable mw_X9_136 (by decide) dX9_passes_17 rfl (Nat.le_of_ble_eq_true rfl) ⟨rfl, rfl⟩ (fun q2 => ?_)
    refine r_if_eq (tgt := 30) dX9_passes_20 (by decide) ?_ ?_
    · refine r_iconst dX9_passes_30 ki_m1 ?_
      exact r_ireturn dX9_passes_31 rfl
    · refine r_iload_n_3 dX9_passes_23 rfl ?_
      refine r_callSI [] (am_X9_isHour p3 q2.2) cf_X9_isHour mw_X9_140 (by decide) dX9_passes_24 rfl (Nat.le_of_ble_eq_true rfl) ⟨rfl, rfl⟩ (fun q3 => ?_)
      refine r_if_ne (tgt := 32) dX9_passes_27 (by decide) ?_ ?_
      · refine r_aload_n_0 dX9_passes_32 rfl ?_
        refine r_getr (t := 2) (cc := 9) 3 rfl rfl uX9 (by decide) rfl fw_X9_23 rfl dX9_passes_33 ?_
        refine r_iload_n_1 dX9_passes_36 rfl ?_
        refine r_iload_n_3 dX9_passes_37 rfl ?_
        refine r_callVL (cc := 1) [] (am_X1_passing 2 rfl p1 p3 q3.2) rfl rfl cf_X1_passing mw_X9_143 (by decide) dX9_passes_38 rfl (Nat.le_of_ble_eq_true rfl) ⟨rfl, rfl⟩ (fun q4 => ?_)
        refine r_iload_n_2 dX9_passes_41 rfl ?_
        refine r_lushr dX9_passes_42 ?_
        refine r_l2i dX9_passes_43 ?_
        refine r_iconst dX9_passes_44 ki_1 ?_
        refine r_iand dX9_passes_45 ?_
        exact r_ireturn dX9_passes_46 rfl
      · refine r_iconst dX9_passes_30 ki_m1 ?_
        exact r_ireturn dX9_passes_31 rfl
theorem cf_X9_passes : CFv mi_X9_passes 3 := ⟨iw_X9_passes, vw_X9_passes, nw_X9, cw_X9_passes, by unfold plainF; decide +kernel⟩
abbrev si_X9_restore : SI := (cX9_restore, RX9, 3, (some .boolean), 3, 64)
def f_X9_restore (p1 : Int32) (d : DD) : Option (Int32 × DD) :=
  (f_X9_imagePlace p1 d).bind fun q1 => match q1.1 with
  | none =>
  some ((0 : Int32), q1.2)
  | some a2 => if kd a2 = 5 then
  if ((iushr (q1.2.1 0 6) p1) &&& (1 : Int32)) = 0 then
    some ((0 : Int32), q1.2)
    else
    (f_X1_copyFrom 2 a2 q1.2).bind fun q3 =>
      some ((1 : Int32), q3.2)
  else none
set_option maxRecDepth 100000 in
set_option maxHeartbeats 4000000 in
theorem am_X9_restore (p1 : Int32) (d : DD) : AM wrI mi_X9_restore 3 64 [.ref 0, .int p1] d (f_X9_restore p1 d) := by
  refine AM_intro (si := si_X9_restore) (lv := [(0, .ref 0), (1, .int p1)]) rfl (by decide +kernel) rfl (Nat.le_of_ble_eq_true rfl) (fun E => ?_)
  unfold f_X9_restore
  refine r_aload_n_0 dX9_restore_0 rfl ?_
  refine r_iload_n_1 dX9_restore_1 rfl ?_
  refine r_callV (cc := 9) [] (am_X9_imagePlace p1 d) rfl rfl cf_X9_imagePlace mw_X9_329 (by decide) dX9_restore_2 rfl (Nat.le_of_ble_eq_true rfl) ⟨rfl, rfl⟩ (fun q1 => r_mref ?_ (fun a2 ha2 => ?_))
  · refine r_astoreN_n [] [] [(0, .ref 0), (1, .int p1)] dX9_restore_5 rfl (by decide) rfl ?_
    refine r_aloadN_n 0 dX9_restore_6 rfl rfl ?_
    refine r_ifnullN (tgt := 21) dX9_restore_7 (by decide) ?_
    refine r_iconst dX9_restore_21 ki_0 ?_
    exact r_zreturn dX9_restore_22 rfl rfl
  · refine r_astore_n_x dX9_restore_5 rfl (by decide) rfl ?_
    refine r_aload_n_0 dX9_restore_6 rfl ?_
    refine r_ifnull dX9_restore_7 ?_
    refine r_aload_n_1 dX9_restore_10 rfl ?_
    refine r_geti (cc := 9) 6 rfl rfl uX9 (by decide) rfl fw_X9_33 dX9_restore_11 ?_
    refine r_iload_n_2 dX9_restore_14 rfl ?_
    refine r_iushr dX9_restore_15 ?_
    refine r_iconst dX9_restore_16 ki_1 ?_
    refine r_iand dX9_restore_17 ?_
    refine r_if_ne (tgt := 23) dX9_restore_18 (by decide) ?_ ?_
    · refine r_aload_n_1 dX9_restore_23 rfl ?_
      refine r_getr (t := 2) (cc := 9) 3 rfl rfl uX9 (by decide) rfl fw_X9_23 rfl dX9_restore_24 ?_
      refine r_aload_n_0 dX9_restore_27 rfl ?_
      refine r_callVU (cc := 1) [] (am_X1_copyFrom 2 rfl a2 ha2 q1.2) rfl rfl cf_X1_copyFrom mw_X9_100 (by decide) dX9_restore_28 rfl (Nat.le_of_ble_eq_true rfl) ⟨rfl, rfl⟩ (fun q3 => ?_)
      refine r_iconst dX9_restore_31 ki_1 ?_
      exact r_zreturn dX9_restore_32 rfl rfl
    · refine r_iconst dX9_restore_21 ki_0 ?_
      exact r_zreturn dX9_restore_22 rfl rfl
theorem cf_X9_restore : CFv mi_X9_restore 1 := ⟨iw_X9_restore, vw_X9_restore, nw_X9, cw_X9_restore, by unfold plainF; decide +kernel⟩
abbrev si_X9_rules : SI := (cX9_rules, RX9, 2, (some .int), 6, 138)
def f_X9_rules_52 (v1 : Int32) (d : DD) : Option (Int32 × DD) :=
  (f_X9_endText v1 d).bind fun q3 =>
  some (q3.1, q3.2)
set_option maxRecDepth 100000 in
set_option maxHeartbeats 4000000 in
theorem w_X9_rules_52 {E : XE} (v1 : Int32) (d : DD) : AW E si_X9_rules 0 0 (QM E wrI) (f_X9_rules_52 v1 d) 52 [(0, .ref 0), (1, .int v1)] [] d := by
  unfold f_X9_rules_52
  refine r_aload_n_0 dX9_rules_52 rfl ?_
  refine r_iload_n_1 dX9_rules_53 rfl ?_
  refine r_callVI (cc := 9) [] (am_X9_endText v1 d) rfl rfl cf_X9_endText mw_X9_103 (by decide) dX9_rules_54 rfl (Nat.le_of_ble_eq_true rfl) ⟨rfl, rfl⟩ (fun q3 => ?_)
  exact r_ireturn dX9_rules_57 rfl
def f_X9_rules (d : DD) : Option (Int32 × DD) :=
  (f_X0_begin 1 (d.1 0 1) (300 : Int32) d).bind fun q1 =>
  (f_X3_readAll 2 q1.2).bind fun q2 =>
  if q2.1 = (-1 : Int32) then
  f_X9_rules_52 q2.1 q2.2
  else
  (f_X9_copyRow 71 11 q2.2).bind fun q4 =>
    f_X9_rules_52 q2.1 q4.2
set_option maxRecDepth 100000 in
set_option maxHeartbeats 4000000 in
theorem am_X9_rules (d : DD) : AM wrI mi_X9_rules 6 138 [.ref 0] d (f_X9_rules d) := by
  refine AM_intro (si := si_X9_rules) (lv := [(0, .ref 0)]) rfl (by decide +kernel) rfl (Nat.le_of_ble_eq_true rfl) (fun E => ?_)
  unfold f_X9_rules
  refine r_aload_n_0 dX9_rules_0 rfl ?_
  refine r_getr (t := 44) (cc := 9) 7 rfl rfl uX9 (by decide) rfl fw_X9_39 rfl dX9_rules_1 ?_
  refine r_aload_n_0 dX9_rules_4 rfl ?_
  refine r_getr (t := 1) (cc := 9) 0 rfl rfl uX9 (by decide) rfl fw_X9_9 rfl dX9_rules_5 ?_
  refine r_aload_n_0 dX9_rules_8 rfl ?_
  refine r_geti (cc := 9) 1 rfl rfl uX9 (by decide) rfl fw_X9_13 dX9_rules_9 ?_
  refine r_sipush dX9_rules_12 ks_300 ?_
  refine r_callVU (cc := 0) [] (am_X0_begin 1 rfl (d.1 0 1) (300 : Int32) d) rfl rfl cf_X0_begin mw_X9_90 (by decide) dX9_rules_15 rfl (Nat.le_of_ble_eq_true rfl) ⟨rfl, rfl⟩ (fun q1 => ?_)
  refine r_aload_n_0 dX9_rules_18 rfl ?_
  refine r_getr (t := 70) (cc := 9) 10 rfl rfl uX9 (by decide) rfl fw_X9_62 rfl dX9_rules_19 ?_
  refine r_aload_n_0 dX9_rules_22 rfl ?_
  refine r_getr (t := 2) (cc := 9) 3 rfl rfl uX9 (by decide) rfl fw_X9_23 rfl dX9_rules_23 ?_
  refine r_callVI (cc := 3) [] (am_X3_readAll 2 rfl q1.2) rfl rfl cf_X3_readAll mw_X9_294 (by decide) dX9_rules_26 rfl (Nat.le_of_ble_eq_true rfl) ⟨rfl, rfl⟩ (fun q2 => ?_)
  refine r_istore_n_x dX9_rules_29 rfl (by decide) rfl ?_
  refine r_iload_n_0 dX9_rules_30 rfl ?_
  refine r_iconst dX9_rules_31 ki_m1 ?_
  refine r_icmp_eq (tgt := 52) dX9_rules_32 (by decide) ?_ ?_
  · refine r_sub [1, 0] (lv' := [(0, .ref 0), (1, .int q2.1)]) rfl ?_
    exact w_X9_rules_52 q2.1 q2.2
  · refine r_aload_n_1 dX9_rules_35 rfl ?_
    refine r_getr (t := 70) (cc := 9) 10 rfl rfl uX9 (by decide) rfl fw_X9_62 rfl dX9_rules_36 ?_
    refine r_getr (t := 71) (cc := 3) 1 rfl rfl uX3 (by decide) rfl fw_X9_295 rfl dX9_rules_39 ?_
    refine r_aload_n_1 dX9_rules_42 rfl ?_
    refine r_getr (t := 2) (cc := 9) 3 rfl rfl uX9 (by decide) rfl fw_X9_23 rfl dX9_rules_43 ?_
    refine r_getr (t := 11) (cc := 1) 10 rfl rfl uX1 (by decide) rfl fw_X9_297 rfl dX9_rules_46 ?_
    refine r_callSU [] (am_X9_copyRow 71 rfl 11 rfl q2.2) cf_X9_copyRow mw_X9_300 (by decide) dX9_rules_49 rfl (Nat.le_of_ble_eq_true rfl) ⟨rfl, rfl⟩ (fun q4 => ?_)
    refine r_sub [1, 0] (lv' := [(0, .ref 0), (1, .int q2.1)]) rfl ?_
    exact w_X9_rules_52 q2.1 q4.2
theorem cf_X9_rules : CFv mi_X9_rules 0 := ⟨iw_X9_rules, vw_X9_rules, nw_X9, cw_X9_rules, by unfold plainF; decide +kernel⟩
abbrev si_X9_said : SI := (cX9_said, RX9, 2, (some .int), 1, 21)
def f_X9_said (p1 : Int32) (d : DD) : Option (Int32 × DD) :=
  if p1 < 0 then
  some ((-1 : Int32), d)
  else
  if p1 < (d.1 83 0) then
    (f_X9_at 84 p1 d).bind fun q1 =>
      some (q1.1, q1.2)
    else
    some ((-1 : Int32), d)
set_option maxRecDepth 100000 in
set_option maxHeartbeats 4000000 in
theorem am_X9_said (p1 : Int32) (d : DD) : AM wrI mi_X9_said 1 21 [.ref 0, .int p1] d (f_X9_said p1 d) := by
  refine AM_intro (si := si_X9_said) (lv := [(0, .ref 0), (1, .int p1)]) rfl (by decide +kernel) rfl (Nat.le_of_ble_eq_true rfl) (fun E => ?_)
  unfold f_X9_said
  refine r_iload_n_1 dX9_said_0 rfl ?_
  refine r_if_lt (tgt := 29) dX9_said_1 (by decide) ?_ ?_
  · refine r_iconst dX9_said_29 ki_m1 ?_
    exact r_ireturn dX9_said_30 rfl
  · refine r_iload_n_1 dX9_said_4 rfl ?_
    refine r_aload_n_0 dX9_said_5 rfl ?_
    refine r_getr (t := 83) (cc := 9) 12 rfl rfl uX9 (by decide) rfl fw_X9_78 rfl dX9_said_6 ?_
    refine r_geti (cc := 4) 0 rfl rfl uX4 (by decide) rfl fw_X9_284 dX9_said_9 ?_
    refine r_icmp_ge (tgt := 29) dX9_said_12 (by decide) ?_ ?_
    · refine r_iconst dX9_said_29 ki_m1 ?_
      exact r_ireturn dX9_said_30 rfl
    · refine r_aload_n_0 dX9_said_15 rfl ?_
      refine r_getr (t := 83) (cc := 9) 12 rfl rfl uX9 (by decide) rfl fw_X9_78 rfl dX9_said_16 ?_
      refine r_getr (t := 84) (cc := 4) 3 rfl rfl uX4 (by decide) rfl fw_X9_285 rfl dX9_said_19 ?_
      refine r_iload_n_1 dX9_said_22 rfl ?_
      refine r_callSI [] (am_X9_at 84 rfl p1 d) cf_X9_at mw_X9_123 (by decide) dX9_said_23 rfl (Nat.le_of_ble_eq_true rfl) ⟨rfl, rfl⟩ (fun q1 => ?_)
      refine r_goto (tgt := 30) dX9_said_26 (by decide) ?_
      exact r_ireturn dX9_said_30 rfl
theorem cf_X9_said : CFv mi_X9_said 1 := ⟨iw_X9_said, vw_X9_said, nw_X9, cw_X9_said, by unfold plainF; decide +kernel⟩
abbrev si_X9_sure : SI := (cX9_sure, RX9, 3, (some .int), 6, 135)
def f_X9_sure (p1 : Int32) (p2 : Int32) (d : DD) : Option (Int32 × DD) :=
  (f_X1_hasKind 2 p1 d).bind fun q1 =>
  if q1.1 = 0 then
  some ((-1 : Int32), q1.2)
  else
  (f_X9_isHour p2 q1.2).bind fun q2 =>
    if q2.1 = 0 then
    some ((-1 : Int32), q2.2)
    else
    (f_X8_gatherAll q2.2).bind fun q3 =>
      (f_X8_isEmpty q3.2).bind fun q4 =>
      if q4.1 = 0 then
      (f_X9_surety p1 p2 q4.2).bind fun q5 =>
        some (q5.1, q5.2)
      else
      some ((-1 : Int32), q4.2)
set_option maxRecDepth 100000 in
set_option maxHeartbeats 4000000 in
theorem am_X9_sure (p1 : Int32) (p2 : Int32) (d : DD) : AM wrI mi_X9_sure 6 135 [.ref 0, .int p1, .int p2] d (f_X9_sure p1 p2 d) := by
  refine AM_intro (si := si_X9_sure) (lv := [(0, .ref 0), (1, .int p1), (2, .int p2)]) rfl (by decide +kernel) rfl (Nat.le_of_ble_eq_true rfl) (fun E => ?_)
  unfold f_X9_sure
  refine r_aload_n_0 dX9_sure_0 rfl ?_
  refine r_getr (t := 2) (cc := 9) 3 rfl rfl uX9 (by decide) rfl fw_X9_23 rfl dX9_sure_1 ?_
  refine r_iload_n_1 dX9_sure_4 rfl ?_
  refine r_callVI (cc := 1) [] (am_X1_hasKind 2 rfl p1 d) rfl rfl cf_X1_hasKind mw_X9_113 (by decide) dX9_sure_5 rfl (Nat.le_of_ble_eq_true rfl) ⟨rfl, rfl⟩ (fun q1 => ?_)
  refine r_if_eq (tgt := 18) dX9_sure_8 (by decide) ?_ ?_
  · refine r_iconst dX9_sure_18 ki_m1 ?_
    exact r_ireturn dX9_sure_19 rfl
  · refine r_iload_n_2 dX9_sure_11 rfl ?_
    refine r_callSI [] (am_X9_isHour p2 q1.2) cf_X9_isHour mw_X9_140 (by decide) dX9_sure_12 rfl (Nat.le_of_ble_eq_true rfl) ⟨rfl, rfl⟩ (fun q2 => ?_)
    refine r_if_ne (tgt := 20) dX9_sure_15 (by decide) ?_ ?_
    · refine r_aload_n_0 dX9_sure_20 rfl ?_
      refine r_getr (t := 72) (cc := 9) 11 rfl rfl uX9 (by decide) rfl fw_X9_71 rfl dX9_sure_21 ?_
      refine r_callVU (cc := 8) [] (am_X8_gatherAll q2.2) rfl rfl cf_X8_gatherAll mw_X9_186 (by decide) dX9_sure_24 rfl (Nat.le_of_ble_eq_true rfl) ⟨rfl, rfl⟩ (fun q3 => ?_)
      refine r_aload_n_0 dX9_sure_27 rfl ?_
      refine r_getr (t := 72) (cc := 9) 11 rfl rfl uX9 (by decide) rfl fw_X9_71 rfl dX9_sure_28 ?_
      refine r_callVI (cc := 8) [] (am_X8_isEmpty q3.2) rfl rfl cf_X8_isEmpty mw_X9_211 (by decide) dX9_sure_31 rfl (Nat.le_of_ble_eq_true rfl) ⟨rfl, rfl⟩ (fun q4 => ?_)
      refine r_if_eq (tgt := 41) dX9_sure_34 (by decide) ?_ ?_
      · refine r_aload_n_0 dX9_sure_41 rfl ?_
        refine r_iload_n_1 dX9_sure_42 rfl ?_
        refine r_iload_n_2 dX9_sure_43 rfl ?_
        refine r_callVI (cc := 9) [] (am_X9_surety p1 p2 q4.2) rfl rfl cf_X9_surety mw_X9_215 (by decide) dX9_sure_44 rfl (Nat.le_of_ble_eq_true rfl) ⟨rfl, rfl⟩ (fun q5 => ?_)
        exact r_ireturn dX9_sure_47 rfl
      · refine r_iconst dX9_sure_37 ki_m1 ?_
        refine r_goto (tgt := 47) dX9_sure_38 (by decide) ?_
        exact r_ireturn dX9_sure_47 rfl
    · refine r_iconst dX9_sure_18 ki_m1 ?_
      exact r_ireturn dX9_sure_19 rfl
theorem cf_X9_sure : CFv mi_X9_sure 2 := ⟨iw_X9_sure, vw_X9_sure, nw_X9, cw_X9_sure, by unfold plainF; decide +kernel⟩
abbrev si_X9_table : SI := (cX9_table, RX9, 3, (some .int), 4, 108)
def f_X9_table (p1 : Int32) (d : DD) : Option (Int32 × DD) :=
  bd (d.1 0 1) fun x1 =>
  bd (u1 d 0 1 (0 : Int32)) fun d2 =>
  (f_X1_hasKind 2 p1 d2).bind fun q3 =>
  if q3.1 = 0 then
  some ((-1 : Int32), q3.2)
  else
  (f_X9_at 6 p1 q3.2).bind fun q4 =>
    if q4.1 = (-1 : Int32) then
    some ((-1 : Int32), q4.2)
    else
    (f_X9_areSpeakers x1 q4.2).bind fun q5 =>
      if q5.1 = 0 then
      some ((-1 : Int32), q5.2)
      else
      (f_X4_hold 2 p1 1 x1 q5.2).bind fun q6 =>
        some (q6.2.1 83 0, q6.2)
set_option maxRecDepth 100000 in
set_option maxHeartbeats 4000000 in
theorem am_X9_table (p1 : Int32) (d : DD) : AM wrI mi_X9_table 4 108 [.ref 0, .int p1] d (f_X9_table p1 d) := by
  refine AM_intro (si := si_X9_table) (lv := [(0, .ref 0), (1, .int p1)]) rfl (by decide +kernel) rfl (Nat.le_of_ble_eq_true rfl) (fun E => ?_)
  unfold f_X9_table
  refine r_aload_n_0 dX9_table_0 rfl ?_
  refine r_geti (cc := 9) 1 rfl rfl uX9 (by decide) rfl fw_X9_13 dX9_table_1 ?_
  refine r_bdI (fun x1 => ?_)
  refine r_istore_n_x dX9_table_4 rfl (by decide) rfl ?_
  refine r_aload_n_1 dX9_table_5 rfl ?_
  refine r_iconst dX9_table_6 ki_0 ?_
  refine r_puti (cc := 9) 1 tyX9 tyX9_ok nmX9 rfl (by decide +kernel) rfl rfl uX9 (by decide) rfl fw_X9_13 dX9_table_7 ?_
  refine r_bd (fun d2 => ?_)
  refine r_aload_n_1 dX9_table_10 rfl ?_
  refine r_getr (t := 2) (cc := 9) 3 rfl rfl uX9 (by decide) rfl fw_X9_23 rfl dX9_table_11 ?_
  refine r_iload_n_2 dX9_table_14 rfl ?_
  refine r_callVI (cc := 1) [] (am_X1_hasKind 2 rfl p1 d2) rfl rfl cf_X1_hasKind mw_X9_113 (by decide) dX9_table_15 rfl (Nat.le_of_ble_eq_true rfl) ⟨rfl, rfl⟩ (fun q3 => ?_)
  refine r_if_eq (tgt := 44) dX9_table_18 (by decide) ?_ ?_
  · refine r_iconst dX9_table_44 ki_m1 ?_
    exact r_ireturn dX9_table_45 rfl
  · refine r_aload_n_1 dX9_table_21 rfl ?_
    refine r_getr (t := 2) (cc := 9) 3 rfl rfl uX9 (by decide) rfl fw_X9_23 rfl dX9_table_22 ?_
    refine r_getr (t := 6) (cc := 1) 5 rfl rfl uX1 (by decide) rfl fw_X9_130 rfl dX9_table_25 ?_
    refine r_iload_n_2 dX9_table_28 rfl ?_
    refine r_callSI [] (am_X9_at 6 rfl p1 q3.2) cf_X9_at mw_X9_123 (by decide) dX9_table_29 rfl (Nat.le_of_ble_eq_true rfl) ⟨rfl, rfl⟩ (fun q4 => ?_)
    refine r_iconst dX9_table_32 ki_m1 ?_
    refine r_icmp_eq (tgt := 44) dX9_table_33 (by decide) ?_ ?_
    · refine r_iconst dX9_table_44 ki_m1 ?_
      exact r_ireturn dX9_table_45 rfl
    · refine r_aload_n_1 dX9_table_36 rfl ?_
      refine r_iload_n_0 dX9_table_37 rfl ?_
      refine r_callVI (cc := 9) [] (am_X9_areSpeakers x1 q4.2) rfl rfl cf_X9_areSpeakers mw_X9_277 (by decide) dX9_table_38 rfl (Nat.le_of_ble_eq_true rfl) ⟨rfl, rfl⟩ (fun q5 => ?_)
      refine r_if_ne (tgt := 46) dX9_table_41 (by decide) ?_ ?_
      · refine r_aload_n_1 dX9_table_46 rfl ?_
        refine r_getr (t := 83) (cc := 9) 12 rfl rfl uX9 (by decide) rfl fw_X9_78 rfl dX9_table_47 ?_
        refine r_aload_n_1 dX9_table_50 rfl ?_
        refine r_getr (t := 2) (cc := 9) 3 rfl rfl uX9 (by decide) rfl fw_X9_23 rfl dX9_table_51 ?_
        refine r_iload_n_2 dX9_table_54 rfl ?_
        refine r_aload_n_1 dX9_table_55 rfl ?_
        refine r_getr (t := 1) (cc := 9) 0 rfl rfl uX9 (by decide) rfl fw_X9_9 rfl dX9_table_56 ?_
        refine r_iload_n_0 dX9_table_59 rfl ?_
        refine r_callVU (cc := 4) [] (am_X4_hold 2 rfl p1 1 rfl x1 q5.2) rfl rfl cf_X4_hold mw_X9_280 (by decide) dX9_table_60 rfl (Nat.le_of_ble_eq_true rfl) ⟨rfl, rfl⟩ (fun q6 => ?_)
        refine r_aload_n_1 dX9_table_63 rfl ?_
        refine r_getr (t := 83) (cc := 9) 12 rfl rfl uX9 (by decide) rfl fw_X9_78 rfl dX9_table_64 ?_
        refine r_geti (cc := 4) 0 rfl rfl uX4 (by decide) rfl fw_X9_284 dX9_table_67 ?_
        exact r_ireturn dX9_table_70 rfl
      · refine r_iconst dX9_table_44 ki_m1 ?_
        exact r_ireturn dX9_table_45 rfl
theorem cf_X9_table : CFv mi_X9_table 1 := ⟨iw_X9_table, vw_X9_table, nw_X9, cw_X9_table, by unfold plainF; decide +kernel⟩
abbrev si_X9_tell : SI := (cX9_tell, RX9, 4, (some .int), 2, 45)
def f_X9_tell (p1 : Int32) (p2 : Int32) (p3 : Int32) (d : DD) : Option (Int32 × DD) :=
  (f_X1_hasPerson 2 p1 d).bind fun q1 =>
  if q1.1 = 0 then
  some ((-1 : Int32), q1.2)
  else
  (f_X9_isHour p2 q1.2).bind fun q2 =>
    if q2.1 = 0 then
    some ((-1 : Int32), q2.2)
    else
    (f_X1_hasSet 2 p3 q2.2).bind fun q3 =>
      if q3.1 = 0 then
      some ((-1 : Int32), q3.2)
      else
      (f_X5_add 12 p1 p2 p3 q3.2).bind fun q4 =>
        if q4.1 = 0 then
        some ((-1 : Int32), q4.2)
        else
        some ((q4.2.1 12 0) - (1 : Int32), q4.2)
set_option maxRecDepth 100000 in
set_option maxHeartbeats 4000000 in
theorem am_X9_tell (p1 : Int32) (p2 : Int32) (p3 : Int32) (d : DD) : AM wrI mi_X9_tell 2 45 [.ref 0, .int p1, .int p2, .int p3] d (f_X9_tell p1 p2 p3 d) := by
  refine AM_intro (si := si_X9_tell) (lv := [(0, .ref 0), (1, .int p1), (2, .int p2), (3, .int p3)]) rfl (by decide +kernel) rfl (Nat.le_of_ble_eq_true rfl) (fun E => ?_)
  unfold f_X9_tell
  refine r_aload_n_0 dX9_tell_0 rfl ?_
  refine r_getr (t := 2) (cc := 9) 3 rfl rfl uX9 (by decide) rfl fw_X9_23 rfl dX9_tell_1 ?_
  refine r_iload_n_1 dX9_tell_4 rfl ?_
  refine r_callVI (cc := 1) [] (am_X1_hasPerson 2 rfl p1 d) rfl rfl cf_X1_hasPerson mw_X9_147 (by decide) dX9_tell_5 rfl (Nat.le_of_ble_eq_true rfl) ⟨rfl, rfl⟩ (fun q1 => ?_)
  refine r_if_eq (tgt := 29) dX9_tell_8 (by decide) ?_ ?_
  · refine r_iconst dX9_tell_29 ki_m1 ?_
    exact r_ireturn dX9_tell_30 rfl
  · refine r_iload_n_2 dX9_tell_11 rfl ?_
    refine r_callSI [] (am_X9_isHour p2 q1.2) cf_X9_isHour mw_X9_140 (by decide) dX9_tell_12 rfl (Nat.le_of_ble_eq_true rfl) ⟨rfl, rfl⟩ (fun q2 => ?_)
    refine r_if_eq (tgt := 29) dX9_tell_15 (by decide) ?_ ?_
    · refine r_iconst dX9_tell_29 ki_m1 ?_
      exact r_ireturn dX9_tell_30 rfl
    · refine r_aload_n_0 dX9_tell_18 rfl ?_
      refine r_getr (t := 2) (cc := 9) 3 rfl rfl uX9 (by decide) rfl fw_X9_23 rfl dX9_tell_19 ?_
      refine r_iload_n_3 dX9_tell_22 rfl ?_
      refine r_callVI (cc := 1) [] (am_X1_hasSet 2 rfl p3 q2.2) rfl rfl cf_X1_hasSet mw_X9_167 (by decide) dX9_tell_23 rfl (Nat.le_of_ble_eq_true rfl) ⟨rfl, rfl⟩ (fun q3 => ?_)
      refine r_if_ne (tgt := 31) dX9_tell_26 (by decide) ?_ ?_
      · refine r_aload_n_0 dX9_tell_31 rfl ?_
        refine r_getr (t := 2) (cc := 9) 3 rfl rfl uX9 (by decide) rfl fw_X9_23 rfl dX9_tell_32 ?_
        refine r_getr (t := 12) (cc := 1) 11 rfl rfl uX1 (by decide) rfl fw_X9_156 rfl dX9_tell_35 ?_
        refine r_iload_n_1 dX9_tell_38 rfl ?_
        refine r_iload_n_2 dX9_tell_39 rfl ?_
        refine r_iload_n_3 dX9_tell_40 rfl ?_
        refine r_callVI (cc := 5) [] (am_X5_add 12 rfl p1 p2 p3 q3.2) rfl rfl cf_X5_add mw_X9_170 (by decide) dX9_tell_41 rfl (Nat.le_of_ble_eq_true rfl) ⟨rfl, rfl⟩ (fun q4 => ?_)
        refine r_if_eq (tgt := 62) dX9_tell_44 (by decide) ?_ ?_
        · refine r_iconst dX9_tell_62 ki_m1 ?_
          exact r_ireturn dX9_tell_63 rfl
        · refine r_aload_n_0 dX9_tell_47 rfl ?_
          refine r_getr (t := 2) (cc := 9) 3 rfl rfl uX9 (by decide) rfl fw_X9_23 rfl dX9_tell_48 ?_
          refine r_getr (t := 12) (cc := 1) 11 rfl rfl uX1 (by decide) rfl fw_X9_156 rfl dX9_tell_51 ?_
          refine r_geti (cc := 5) 0 rfl rfl uX5 (by decide) rfl fw_X9_174 dX9_tell_54 ?_
          refine r_iconst dX9_tell_57 ki_1 ?_
          refine r_isub dX9_tell_58 ?_
          refine r_goto (tgt := 63) dX9_tell_59 (by decide) ?_
          exact r_ireturn dX9_tell_63 rfl
      · refine r_iconst dX9_tell_29 ki_m1 ?_
        exact r_ireturn dX9_tell_30 rfl
theorem cf_X9_tell : CFv mi_X9_tell 3 := ⟨iw_X9_tell, vw_X9_tell, nw_X9, cw_X9_tell, by unfold plainF; decide +kernel⟩
abbrev si_X9_tellings : SI := (cX9_tellings, RX9, 2, (some .int), 6, 136)
def f_X9_tellings_52 (v1 : Int32) (d : DD) : Option (Int32 × DD) :=
  (f_X9_endText v1 d).bind fun q3 =>
  some (q3.1, q3.2)
set_option maxRecDepth 100000 in
set_option maxHeartbeats 4000000 in
theorem w_X9_tellings_52 {E : XE} (v1 : Int32) (d : DD) : AW E si_X9_tellings 0 0 (QM E wrI) (f_X9_tellings_52 v1 d) 52 [(0, .ref 0), (1, .int v1)] [] d := by
  unfold f_X9_tellings_52
  refine r_aload_n_0 dX9_tellings_52 rfl ?_
  refine r_iload_n_1 dX9_tellings_53 rfl ?_
  refine r_callVI (cc := 9) [] (am_X9_endText v1 d) rfl rfl cf_X9_endText mw_X9_103 (by decide) dX9_tellings_54 rfl (Nat.le_of_ble_eq_true rfl) ⟨rfl, rfl⟩ (fun q3 => ?_)
  exact r_ireturn dX9_tellings_57 rfl
def f_X9_tellings (d : DD) : Option (Int32 × DD) :=
  (f_X0_begin 1 (d.1 0 1) (600 : Int32) d).bind fun q1 =>
  (f_X6_readAll 2 q1.2).bind fun q2 =>
  if q2.1 = (-1 : Int32) then
  f_X9_tellings_52 q2.1 q2.2
  else
  (f_X5_copyFrom 12 66 q2.2).bind fun q4 =>
    f_X9_tellings_52 q2.1 q4.2
set_option maxRecDepth 100000 in
set_option maxHeartbeats 4000000 in
theorem am_X9_tellings (d : DD) : AM wrI mi_X9_tellings 6 136 [.ref 0] d (f_X9_tellings d) := by
  refine AM_intro (si := si_X9_tellings) (lv := [(0, .ref 0)]) rfl (by decide +kernel) rfl (Nat.le_of_ble_eq_true rfl) (fun E => ?_)
  unfold f_X9_tellings
  refine r_aload_n_0 dX9_tellings_0 rfl ?_
  refine r_getr (t := 44) (cc := 9) 7 rfl rfl uX9 (by decide) rfl fw_X9_39 rfl dX9_tellings_1 ?_
  refine r_aload_n_0 dX9_tellings_4 rfl ?_
  refine r_getr (t := 1) (cc := 9) 0 rfl rfl uX9 (by decide) rfl fw_X9_9 rfl dX9_tellings_5 ?_
  refine r_aload_n_0 dX9_tellings_8 rfl ?_
  refine r_geti (cc := 9) 1 rfl rfl uX9 (by decide) rfl fw_X9_13 dX9_tellings_9 ?_
  refine r_sipush dX9_tellings_12 ks_600 ?_
  refine r_callVU (cc := 0) [] (am_X0_begin 1 rfl (d.1 0 1) (600 : Int32) d) rfl rfl cf_X0_begin mw_X9_90 (by decide) dX9_tellings_15 rfl (Nat.le_of_ble_eq_true rfl) ⟨rfl, rfl⟩ (fun q1 => ?_)
  refine r_aload_n_0 dX9_tellings_18 rfl ?_
  refine r_getr (t := 65) (cc := 9) 9 rfl rfl uX9 (by decide) rfl fw_X9_55 rfl dX9_tellings_19 ?_
  refine r_aload_n_0 dX9_tellings_22 rfl ?_
  refine r_getr (t := 2) (cc := 9) 3 rfl rfl uX9 (by decide) rfl fw_X9_23 rfl dX9_tellings_23 ?_
  refine r_callVI (cc := 6) [] (am_X6_readAll 2 rfl q1.2) rfl rfl cf_X6_readAll mw_X9_153 (by decide) dX9_tellings_26 rfl (Nat.le_of_ble_eq_true rfl) ⟨rfl, rfl⟩ (fun q2 => ?_)
  refine r_istore_n_x dX9_tellings_29 rfl (by decide) rfl ?_
  refine r_iload_n_0 dX9_tellings_30 rfl ?_
  refine r_iconst dX9_tellings_31 ki_m1 ?_
  refine r_icmp_eq (tgt := 52) dX9_tellings_32 (by decide) ?_ ?_
  · refine r_sub [1, 0] (lv' := [(0, .ref 0), (1, .int q2.1)]) rfl ?_
    exact w_X9_tellings_52 q2.1 q2.2
  · refine r_aload_n_1 dX9_tellings_35 rfl ?_
    refine r_getr (t := 2) (cc := 9) 3 rfl rfl uX9 (by decide) rfl fw_X9_23 rfl dX9_tellings_36 ?_
    refine r_getr (t := 12) (cc := 1) 11 rfl rfl uX1 (by decide) rfl fw_X9_156 rfl dX9_tellings_39 ?_
    refine r_aload_n_1 dX9_tellings_42 rfl ?_
    refine r_getr (t := 65) (cc := 9) 9 rfl rfl uX9 (by decide) rfl fw_X9_55 rfl dX9_tellings_43 ?_
    refine r_getr (t := 66) (cc := 6) 1 rfl rfl uX6 (by decide) rfl fw_X9_160 rfl dX9_tellings_46 ?_
    refine r_callVU (cc := 5) [] (am_X5_copyFrom 12 rfl 66 rfl q2.2) rfl rfl cf_X5_copyFrom mw_X9_162 (by decide) dX9_tellings_49 rfl (Nat.le_of_ble_eq_true rfl) ⟨rfl, rfl⟩ (fun q4 => ?_)
    refine r_sub [1, 0] (lv' := [(0, .ref 0), (1, .int q2.1)]) rfl ?_
    exact w_X9_tellings_52 q2.1 q4.2
theorem cf_X9_tellings : CFv mi_X9_tellings 0 := ⟨iw_X9_tellings, vw_X9_tellings, nw_X9, cw_X9_tellings, by unfold plainF; decide +kernel⟩
abbrev si_X9_trade : SI := (cX9_trade, RX9, 3, (some .int), 4, 93)
def f_X9_trade_4B (k4 : Int32 → Int32 → DD → Option (Int32 × DD)) (v1 : Int32) (v2 : Int32) (d : DD) : Option (Int32 × DD) :=
  if v2 < (100 : Int32) then
  (f_X1_tradeOnce 2 d).bind fun q1 =>
    if q1.1 = 0 then
    some (v1, q1.2)
    else
    k4 (v1 + (1 : Int32)) (v2 + (1 : Int32)) q1.2
  else
  some (v1, d)
def f_X9_trade_4 : Nat → Int32 → Int32 → DD → Option (Int32 × DD)
  | 0, _, _, _ => none
  | n + 1, v1, v2, d => f_X9_trade_4B (f_X9_trade_4 n) v1 v2 d
set_option maxRecDepth 100000 in
set_option maxHeartbeats 4000000 in
theorem w_X9_trade_4B {E : XE} (k4 : Int32 → Int32 → DD → Option (Int32 × DD)) (hk4 : ∀ (v1 : Int32) (v2 : Int32) (d : DD), AW E si_X9_trade 0 0 (QM E wrI) (k4 v1 v2 d) 4 [(0, .ref 0), (1, .int v1), (2, .int v2)] [] d) (v1 : Int32) (v2 : Int32) (d : DD) : AW E si_X9_trade 0 0 (QM E wrI) (f_X9_trade_4B k4 v1 v2 d) 4 [(0, .ref 0), (1, .int v1), (2, .int v2)] [] d := by
  unfold f_X9_trade_4B
  refine r_iload_n_2 dX9_trade_4 rfl ?_
  refine r_bipush dX9_trade_5 kb_100 ?_
  refine r_icmp_ge (tgt := 29) dX9_trade_7 (by decide) ?_ ?_
  · refine r_iload_n_1 dX9_trade_29 rfl ?_
    exact r_ireturn dX9_trade_30 rfl
  · refine r_aload_n_0 dX9_trade_10 rfl ?_
    refine r_getr (t := 2) (cc := 9) 3 rfl rfl uX9 (by decide) rfl fw_X9_23 rfl dX9_trade_11 ?_
    refine r_callVI (cc := 1) [] (am_X1_tradeOnce 2 rfl d) rfl rfl cf_X1_tradeOnce mw_X9_307 (by decide) dX9_trade_14 rfl (Nat.le_of_ble_eq_true rfl) ⟨rfl, rfl⟩ (fun q1 => ?_)
    refine r_if_eq (tgt := 29) dX9_trade_17 (by decide) ?_ ?_
    · refine r_iload_n_1 dX9_trade_29 rfl ?_
      exact r_ireturn dX9_trade_30 rfl
    · refine r_iinc_1 dX9_trade_20 ki_1 (by decide) rfl ?_
      refine r_iinc_2 dX9_trade_23 ki_1 (by decide) rfl ?_
      refine r_goto (tgt := 4) dX9_trade_26 (by decide) ?_
      exact hk4 (v1 + (1 : Int32)) (v2 + (1 : Int32)) q1.2
theorem w_X9_trade_4 {E : XE} (n : Nat) : ∀ (v1 : Int32) (v2 : Int32) (d : DD), AW E si_X9_trade 0 0 (QM E wrI) (f_X9_trade_4 n v1 v2 d) 4 [(0, .ref 0), (1, .int v1), (2, .int v2)] [] d := by
  induction n with
  | zero => intros; exact r_none
  | succ n ih => intro v1 v2 d; exact w_X9_trade_4B (f_X9_trade_4 n) ih v1 v2 d
def f_X9_trade (d : DD) : Option (Int32 × DD) :=
  f_X9_trade_4 FU (0 : Int32) (0 : Int32) d
set_option maxRecDepth 100000 in
set_option maxHeartbeats 4000000 in
theorem am_X9_trade (d : DD) : AM wrI mi_X9_trade 4 93 [.ref 0] d (f_X9_trade d) := by
  refine AM_intro (si := si_X9_trade) (lv := [(0, .ref 0)]) rfl (by decide +kernel) rfl (Nat.le_of_ble_eq_true rfl) (fun E => ?_)
  unfold f_X9_trade
  refine r_iconst dX9_trade_0 ki_0 ?_
  refine r_istore_n_x dX9_trade_1 rfl (by decide) rfl ?_
  refine r_iconst dX9_trade_2 ki_0 ?_
  refine r_istore_n_x dX9_trade_3 rfl (by decide) rfl ?_
  refine r_sub [2, 1, 0] (lv' := [(0, .ref 0), (1, .int (0 : Int32)), (2, .int (0 : Int32))]) rfl ?_
  exact w_X9_trade_4 FU (0 : Int32) (0 : Int32) d
theorem cf_X9_trade : CFv mi_X9_trade 0 := ⟨iw_X9_trade, vw_X9_trade, nw_X9, cw_X9_trade, by unfold plainF; decide +kernel⟩
abbrev si_X9_turn : SI := (cX9_turn, RX9, 2, (some .int), 1, 21)
def f_X9_turn (p1 : Int32) (d : DD) : Option (Int32 × DD) :=
  (f_X9_isHour p1 d).bind fun q1 =>
  if q1.1 = 0 then
  some ((-1 : Int32), q1.2)
  else
  (f_X9_at 11 p1 q1.2).bind fun q2 =>
    some (q2.1, q2.2)
set_option maxRecDepth 100000 in
set_option maxHeartbeats 4000000 in
theorem am_X9_turn (p1 : Int32) (d : DD) : AM wrI mi_X9_turn 1 21 [.ref 0, .int p1] d (f_X9_turn p1 d) := by
  refine AM_intro (si := si_X9_turn) (lv := [(0, .ref 0), (1, .int p1)]) rfl (by decide +kernel) rfl (Nat.le_of_ble_eq_true rfl) (fun E => ?_)
  unfold f_X9_turn
  refine r_iload_n_1 dX9_turn_0 rfl ?_
  refine r_callSI [] (am_X9_isHour p1 d) cf_X9_isHour mw_X9_140 (by decide) dX9_turn_1 rfl (Nat.le_of_ble_eq_true rfl) ⟨rfl, rfl⟩ (fun q1 => ?_)
  refine r_if_eq (tgt := 21) dX9_turn_4 (by decide) ?_ ?_
  · refine r_iconst dX9_turn_21 ki_m1 ?_
    exact r_ireturn dX9_turn_22 rfl
  · refine r_aload_n_0 dX9_turn_7 rfl ?_
    refine r_getr (t := 2) (cc := 9) 3 rfl rfl uX9 (by decide) rfl fw_X9_23 rfl dX9_turn_8 ?_
    refine r_getr (t := 11) (cc := 1) 10 rfl rfl uX1 (by decide) rfl fw_X9_297 rfl dX9_turn_11 ?_
    refine r_iload_n_1 dX9_turn_14 rfl ?_
    refine r_callSI [] (am_X9_at 11 rfl p1 q1.2) cf_X9_at mw_X9_123 (by decide) dX9_turn_15 rfl (Nat.le_of_ble_eq_true rfl) ⟨rfl, rfl⟩ (fun q2 => ?_)
    refine r_goto (tgt := 22) dX9_turn_18 (by decide) ?_
    exact r_ireturn dX9_turn_22 rfl
theorem cf_X9_turn : CFv mi_X9_turn 1 := ⟨iw_X9_turn, vw_X9_turn, nw_X9, cw_X9_turn, by unfold plainF; decide +kernel⟩
abbrev si_X9_untell : SI := (cX9_untell, RX9, 1, (some .int), 0, 0)
def f_X9_untell (d : DD) : Option (Int32 × DD) :=
  if 0 < (d.1 12 0) then
  bd (u1 d 12 0 ((d.1 12 0) - (1 : Int32))) fun d1 =>
    some (d1.1 12 0, d1)
  else
  some ((-1 : Int32), d)
set_option maxRecDepth 100000 in
set_option maxHeartbeats 4000000 in
theorem am_X9_untell (d : DD) : AM wrI mi_X9_untell 0 0 [.ref 0] d (f_X9_untell d) := by
  refine AM_intro (si := si_X9_untell) (lv := [(0, .ref 0)]) rfl (by decide +kernel) rfl (Nat.le_of_ble_eq_true rfl) (fun E => ?_)
  unfold f_X9_untell
  refine r_aload_n_0 dX9_untell_0 rfl ?_
  refine r_getr (t := 2) (cc := 9) 3 rfl rfl uX9 (by decide) rfl fw_X9_23 rfl dX9_untell_1 ?_
  refine r_getr (t := 12) (cc := 1) 11 rfl rfl uX1 (by decide) rfl fw_X9_156 rfl dX9_untell_4 ?_
  refine r_geti (cc := 5) 0 rfl rfl uX5 (by decide) rfl fw_X9_174 dX9_untell_7 ?_
  refine r_if_gt (tgt := 15) dX9_untell_10 (by decide) ?_ ?_
  · refine r_aload_n_0 dX9_untell_15 rfl ?_
    refine r_getr (t := 2) (cc := 9) 3 rfl rfl uX9 (by decide) rfl fw_X9_23 rfl dX9_untell_16 ?_
    refine r_getr (t := 12) (cc := 1) 11 rfl rfl uX1 (by decide) rfl fw_X9_156 rfl dX9_untell_19 ?_
    refine r_dupa dX9_untell_22 ?_
    refine r_geti (cc := 5) 0 rfl rfl uX5 (by decide) rfl fw_X9_174 dX9_untell_23 ?_
    refine r_iconst dX9_untell_26 ki_1 ?_
    refine r_isub dX9_untell_27 ?_
    refine r_puti (cc := 5) 0 tyX5 tyX5_ok nmX5 rfl (by decide +kernel) rfl rfl uX5 (by decide) rfl fw_X9_174 dX9_untell_28 ?_
    refine r_bd (fun d1 => ?_)
    refine r_aload_n_0 dX9_untell_31 rfl ?_
    refine r_getr (t := 2) (cc := 9) 3 rfl rfl uX9 (by decide) rfl fw_X9_23 rfl dX9_untell_32 ?_
    refine r_getr (t := 12) (cc := 1) 11 rfl rfl uX1 (by decide) rfl fw_X9_156 rfl dX9_untell_35 ?_
    refine r_geti (cc := 5) 0 rfl rfl uX5 (by decide) rfl fw_X9_174 dX9_untell_38 ?_
    exact r_ireturn dX9_untell_41 rfl
  · refine r_iconst dX9_untell_13 ki_m1 ?_
    exact r_ireturn dX9_untell_14 rfl
theorem cf_X9_untell : CFv mi_X9_untell 0 := ⟨iw_X9_untell, vw_X9_untell, nw_X9, cw_X9_untell, by unfold plainF; decide +kernel⟩
abbrev si_X9_waysOf : SI := (cX9_waysOf, RX9, 3, (some .long), 6, 135)
def f_X9_waysOf (p1 : Int32) (p2 : Int32) (d : DD) : Option (Int64 × DD) :=
  (f_X1_hasPerson 2 p1 d).bind fun q1 =>
  if q1.1 = 0 then
  some ((-1 : Int64), q1.2)
  else
  (f_X1_hasWay 2 p2 q1.2).bind fun q2 =>
    if q2.1 = 0 then
    some ((-1 : Int64), q2.2)
    else
    (f_X8_gatherAll q2.2).bind fun q3 =>
      (f_X8_withWay p1 p2 q3.2).bind fun q4 =>
      some (q4.1, q4.2)
set_option maxRecDepth 100000 in
set_option maxHeartbeats 4000000 in
theorem am_X9_waysOf (p1 : Int32) (p2 : Int32) (d : DD) : AM wrL mi_X9_waysOf 6 135 [.ref 0, .int p1, .int p2] d (f_X9_waysOf p1 p2 d) := by
  refine AM_intro (si := si_X9_waysOf) (lv := [(0, .ref 0), (1, .int p1), (2, .int p2)]) rfl (by decide +kernel) rfl (Nat.le_of_ble_eq_true rfl) (fun E => ?_)
  unfold f_X9_waysOf
  refine r_aload_n_0 dX9_waysOf_0 rfl ?_
  refine r_getr (t := 2) (cc := 9) 3 rfl rfl uX9 (by decide) rfl fw_X9_23 rfl dX9_waysOf_1 ?_
  refine r_iload_n_1 dX9_waysOf_4 rfl ?_
  refine r_callVI (cc := 1) [] (am_X1_hasPerson 2 rfl p1 d) rfl rfl cf_X1_hasPerson mw_X9_147 (by decide) dX9_waysOf_5 rfl (Nat.le_of_ble_eq_true rfl) ⟨rfl, rfl⟩ (fun q1 => ?_)
  refine r_if_eq (tgt := 22) dX9_waysOf_8 (by decide) ?_ ?_
  · refine r_ldc2 dX9_waysOf_22 kw_X9_193 ?_
    exact r_lreturn dX9_waysOf_25 rfl
  · refine r_aload_n_0 dX9_waysOf_11 rfl ?_
    refine r_getr (t := 2) (cc := 9) 3 rfl rfl uX9 (by decide) rfl fw_X9_23 rfl dX9_waysOf_12 ?_
    refine r_iload_n_2 dX9_waysOf_15 rfl ?_
    refine r_callVI (cc := 1) [] (am_X1_hasWay 2 rfl p2 q1.2) rfl rfl cf_X1_hasWay mw_X9_205 (by decide) dX9_waysOf_16 rfl (Nat.le_of_ble_eq_true rfl) ⟨rfl, rfl⟩ (fun q2 => ?_)
    refine r_if_ne (tgt := 26) dX9_waysOf_19 (by decide) ?_ ?_
    · refine r_aload_n_0 dX9_waysOf_26 rfl ?_
      refine r_getr (t := 72) (cc := 9) 11 rfl rfl uX9 (by decide) rfl fw_X9_71 rfl dX9_waysOf_27 ?_
      refine r_callVU (cc := 8) [] (am_X8_gatherAll q2.2) rfl rfl cf_X8_gatherAll mw_X9_186 (by decide) dX9_waysOf_30 rfl (Nat.le_of_ble_eq_true rfl) ⟨rfl, rfl⟩ (fun q3 => ?_)
      refine r_aload_n_0 dX9_waysOf_33 rfl ?_
      refine r_getr (t := 72) (cc := 9) 11 rfl rfl uX9 (by decide) rfl fw_X9_71 rfl dX9_waysOf_34 ?_
      refine r_iload_n_1 dX9_waysOf_37 rfl ?_
      refine r_iload_n_2 dX9_waysOf_38 rfl ?_
      refine r_callVL (cc := 8) [] (am_X8_withWay p1 p2 q3.2) rfl rfl cf_X8_withWay mw_X9_208 (by decide) dX9_waysOf_39 rfl (Nat.le_of_ble_eq_true rfl) ⟨rfl, rfl⟩ (fun q4 => ?_)
      exact r_lreturn dX9_waysOf_42 rfl
    · refine r_ldc2 dX9_waysOf_22 kw_X9_193 ?_
      exact r_lreturn dX9_waysOf_25 rfl
theorem cf_X9_waysOf : CFv mi_X9_waysOf 2 := ⟨iw_X9_waysOf, vw_X9_waysOf, nw_X9, cw_X9_waysOf, by unfold plainF; decide +kernel⟩
abbrev si_X9_worlds : SI := (cX9_worlds, RX9, 1, (some .long), 6, 135)
def f_X9_worlds (d : DD) : Option (Int64 × DD) :=
  (f_X8_gatherAll d).bind fun q1 =>
  (f_X8_total q1.2).bind fun q2 =>
  some (q2.1, q2.2)
set_option maxRecDepth 100000 in
set_option maxHeartbeats 4000000 in
theorem am_X9_worlds (d : DD) : AM wrL mi_X9_worlds 6 135 [.ref 0] d (f_X9_worlds d) := by
  refine AM_intro (si := si_X9_worlds) (lv := [(0, .ref 0)]) rfl (by decide +kernel) rfl (Nat.le_of_ble_eq_true rfl) (fun E => ?_)
  unfold f_X9_worlds
  refine r_aload_n_0 dX9_worlds_0 rfl ?_
  refine r_getr (t := 72) (cc := 9) 11 rfl rfl uX9 (by decide) rfl fw_X9_71 rfl dX9_worlds_1 ?_
  refine r_callVU (cc := 8) [] (am_X8_gatherAll d) rfl rfl cf_X8_gatherAll mw_X9_186 (by decide) dX9_worlds_4 rfl (Nat.le_of_ble_eq_true rfl) ⟨rfl, rfl⟩ (fun q1 => ?_)
  refine r_aload_n_0 dX9_worlds_7 rfl ?_
  refine r_getr (t := 72) (cc := 9) 11 rfl rfl uX9 (by decide) rfl fw_X9_71 rfl dX9_worlds_8 ?_
  refine r_callVL (cc := 8) [] (am_X8_total q1.2) rfl rfl cf_X8_total mw_X9_189 (by decide) dX9_worlds_11 rfl (Nat.le_of_ble_eq_true rfl) ⟨rfl, rfl⟩ (fun q2 => ?_)
  exact r_lreturn dX9_worlds_14 rfl
theorem cf_X9_worlds : CFv mi_X9_worlds 0 := ⟨iw_X9_worlds, vw_X9_worlds, nw_X9, cw_X9_worlds, by unfold plainF; decide +kernel⟩
abbrev si_X9_worldsOf : SI := (cX9_worldsOf, RX9, 3, (some .long), 6, 135)
def f_X9_worldsOf (p1 : Int32) (p2 : Int32) (d : DD) : Option (Int64 × DD) :=
  (f_X1_hasKind 2 p1 d).bind fun q1 =>
  if q1.1 = 0 then
  some ((-1 : Int64), q1.2)
  else
  (f_X1_hasTimetable 2 p1 p2 q1.2).bind fun q2 =>
    if q2.1 = 0 then
    some ((-1 : Int64), q2.2)
    else
    (f_X8_gatherAll q2.2).bind fun q3 =>
      (f_X8_pickAny q3.2).bind fun q4 =>
      (f_X8_pick p1 ((1 : Int64) <<< (p2.toInt64 &&& 63)) q4.2).bind fun q5 =>
      (f_X8_picked q5.2).bind fun q6 =>
      some (q6.1, q6.2)
set_option maxRecDepth 100000 in
set_option maxHeartbeats 4000000 in
theorem am_X9_worldsOf (p1 : Int32) (p2 : Int32) (d : DD) : AM wrL mi_X9_worldsOf 6 135 [.ref 0, .int p1, .int p2] d (f_X9_worldsOf p1 p2 d) := by
  refine AM_intro (si := si_X9_worldsOf) (lv := [(0, .ref 0), (1, .int p1), (2, .int p2)]) rfl (by decide +kernel) rfl (Nat.le_of_ble_eq_true rfl) (fun E => ?_)
  unfold f_X9_worldsOf
  refine r_aload_n_0 dX9_worldsOf_0 rfl ?_
  refine r_getr (t := 2) (cc := 9) 3 rfl rfl uX9 (by decide) rfl fw_X9_23 rfl dX9_worldsOf_1 ?_
  refine r_iload_n_1 dX9_worldsOf_4 rfl ?_
  refine r_callVI (cc := 1) [] (am_X1_hasKind 2 rfl p1 d) rfl rfl cf_X1_hasKind mw_X9_113 (by decide) dX9_worldsOf_5 rfl (Nat.le_of_ble_eq_true rfl) ⟨rfl, rfl⟩ (fun q1 => ?_)
  refine r_if_eq (tgt := 23) dX9_worldsOf_8 (by decide) ?_ ?_
  · refine r_ldc2 dX9_worldsOf_23 kw_X9_193 ?_
    exact r_lreturn dX9_worldsOf_26 rfl
  · refine r_aload_n_0 dX9_worldsOf_11 rfl ?_
    refine r_getr (t := 2) (cc := 9) 3 rfl rfl uX9 (by decide) rfl fw_X9_23 rfl dX9_worldsOf_12 ?_
    refine r_iload_n_1 dX9_worldsOf_15 rfl ?_
    refine r_iload_n_2 dX9_worldsOf_16 rfl ?_
    refine r_callVI (cc := 1) [] (am_X1_hasTimetable 2 rfl p1 p2 q1.2) rfl rfl cf_X1_hasTimetable mw_X9_136 (by decide) dX9_worldsOf_17 rfl (Nat.le_of_ble_eq_true rfl) ⟨rfl, rfl⟩ (fun q2 => ?_)
    refine r_if_ne (tgt := 27) dX9_worldsOf_20 (by decide) ?_ ?_
    · refine r_aload_n_0 dX9_worldsOf_27 rfl ?_
      refine r_getr (t := 72) (cc := 9) 11 rfl rfl uX9 (by decide) rfl fw_X9_71 rfl dX9_worldsOf_28 ?_
      refine r_callVU (cc := 8) [] (am_X8_gatherAll q2.2) rfl rfl cf_X8_gatherAll mw_X9_186 (by decide) dX9_worldsOf_31 rfl (Nat.le_of_ble_eq_true rfl) ⟨rfl, rfl⟩ (fun q3 => ?_)
      refine r_aload_n_0 dX9_worldsOf_34 rfl ?_
      refine r_getr (t := 72) (cc := 9) 11 rfl rfl uX9 (by decide) rfl fw_X9_71 rfl dX9_worldsOf_35 ?_
      refine r_callVU (cc := 8) [] (am_X8_pickAny q3.2) rfl rfl cf_X8_pickAny mw_X9_195 (by decide) dX9_worldsOf_38 rfl (Nat.le_of_ble_eq_true rfl) ⟨rfl, rfl⟩ (fun q4 => ?_)
      refine r_aload_n_0 dX9_worldsOf_41 rfl ?_
      refine r_getr (t := 72) (cc := 9) 11 rfl rfl uX9 (by decide) rfl fw_X9_71 rfl dX9_worldsOf_42 ?_
      refine r_iload_n_1 dX9_worldsOf_45 rfl ?_
      refine r_lconst dX9_worldsOf_46 kl_1 ?_
      refine r_iload_n_2 dX9_worldsOf_47 rfl ?_
      refine r_lshl dX9_worldsOf_48 ?_
      refine r_callVU (cc := 8) [] (am_X8_pick p1 ((1 : Int64) <<< (p2.toInt64 &&& 63)) q4.2) rfl rfl cf_X8_pick mw_X9_198 (by decide) dX9_worldsOf_49 rfl (Nat.le_of_ble_eq_true rfl) ⟨rfl, rfl⟩ (fun q5 => ?_)
      refine r_aload_n_0 dX9_worldsOf_52 rfl ?_
      refine r_getr (t := 72) (cc := 9) 11 rfl rfl uX9 (by decide) rfl fw_X9_71 rfl dX9_worldsOf_53 ?_
      refine r_callVL (cc := 8) [] (am_X8_picked q5.2) rfl rfl cf_X8_picked mw_X9_202 (by decide) dX9_worldsOf_56 rfl (Nat.le_of_ble_eq_true rfl) ⟨rfl, rfl⟩ (fun q6 => ?_)
      exact r_lreturn dX9_worldsOf_59 rfl
    · refine r_ldc2 dX9_worldsOf_23 kw_X9_193 ?_
      exact r_lreturn dX9_worldsOf_26 rfl
theorem cf_X9_worldsOf : CFv mi_X9_worldsOf 2 := ⟨iw_X9_worldsOf, vw_X9_worldsOf, nw_X9, cw_X9_worldsOf, by unfold plainF; decide +kernel⟩
abbrev si_X9_wouldTell : SI := (cX9_wouldTell, RX9, 4, (some .long), 6, 135)
def f_X9_wouldTell (p1 : Int32) (p2 : Int32) (p3 : Int32) (d : DD) : Option (Int64 × DD) :=
  (f_X1_hasPerson 2 p1 d).bind fun q1 =>
  if q1.1 = 0 then
  some ((-1 : Int64), q1.2)
  else
  (f_X9_isHour p2 q1.2).bind fun q2 =>
    if q2.1 = 0 then
    some ((-1 : Int64), q2.2)
    else
    (f_X1_hasSet 2 p3 q2.2).bind fun q3 =>
      if q3.1 = 0 then
      some ((-1 : Int64), q3.2)
      else
      (f_X8_gatherAll q3.2).bind fun q4 =>
        (f_X8_spread p1 p2 q4.2).bind fun q5 =>
        (f_X9_longAt 82 p3 q5.2).bind fun q6 =>
        some (q6.1, q6.2)
set_option maxRecDepth 100000 in
set_option maxHeartbeats 4000000 in
theorem am_X9_wouldTell (p1 : Int32) (p2 : Int32) (p3 : Int32) (d : DD) : AM wrL mi_X9_wouldTell 6 135 [.ref 0, .int p1, .int p2, .int p3] d (f_X9_wouldTell p1 p2 p3 d) := by
  refine AM_intro (si := si_X9_wouldTell) (lv := [(0, .ref 0), (1, .int p1), (2, .int p2), (3, .int p3)]) rfl (by decide +kernel) rfl (Nat.le_of_ble_eq_true rfl) (fun E => ?_)
  unfold f_X9_wouldTell
  refine r_aload_n_0 dX9_wouldTell_0 rfl ?_
  refine r_getr (t := 2) (cc := 9) 3 rfl rfl uX9 (by decide) rfl fw_X9_23 rfl dX9_wouldTell_1 ?_
  refine r_iload_n_1 dX9_wouldTell_4 rfl ?_
  refine r_callVI (cc := 1) [] (am_X1_hasPerson 2 rfl p1 d) rfl rfl cf_X1_hasPerson mw_X9_147 (by decide) dX9_wouldTell_5 rfl (Nat.le_of_ble_eq_true rfl) ⟨rfl, rfl⟩ (fun q1 => ?_)
  refine r_if_eq (tgt := 29) dX9_wouldTell_8 (by decide) ?_ ?_
  · refine r_ldc2 dX9_wouldTell_29 kw_X9_193 ?_
    exact r_lreturn dX9_wouldTell_32 rfl
  · refine r_iload_n_2 dX9_wouldTell_11 rfl ?_
    refine r_callSI [] (am_X9_isHour p2 q1.2) cf_X9_isHour mw_X9_140 (by decide) dX9_wouldTell_12 rfl (Nat.le_of_ble_eq_true rfl) ⟨rfl, rfl⟩ (fun q2 => ?_)
    refine r_if_eq (tgt := 29) dX9_wouldTell_15 (by decide) ?_ ?_
    · refine r_ldc2 dX9_wouldTell_29 kw_X9_193 ?_
      exact r_lreturn dX9_wouldTell_32 rfl
    · refine r_aload_n_0 dX9_wouldTell_18 rfl ?_
      refine r_getr (t := 2) (cc := 9) 3 rfl rfl uX9 (by decide) rfl fw_X9_23 rfl dX9_wouldTell_19 ?_
      refine r_iload_n_3 dX9_wouldTell_22 rfl ?_
      refine r_callVI (cc := 1) [] (am_X1_hasSet 2 rfl p3 q2.2) rfl rfl cf_X1_hasSet mw_X9_167 (by decide) dX9_wouldTell_23 rfl (Nat.le_of_ble_eq_true rfl) ⟨rfl, rfl⟩ (fun q3 => ?_)
      refine r_if_ne (tgt := 33) dX9_wouldTell_26 (by decide) ?_ ?_
      · refine r_aload_n_0 dX9_wouldTell_33 rfl ?_
        refine r_getr (t := 72) (cc := 9) 11 rfl rfl uX9 (by decide) rfl fw_X9_71 rfl dX9_wouldTell_34 ?_
        refine r_callVU (cc := 8) [] (am_X8_gatherAll q3.2) rfl rfl cf_X8_gatherAll mw_X9_186 (by decide) dX9_wouldTell_37 rfl (Nat.le_of_ble_eq_true rfl) ⟨rfl, rfl⟩ (fun q4 => ?_)
        refine r_aload_n_0 dX9_wouldTell_40 rfl ?_
        refine r_getr (t := 72) (cc := 9) 11 rfl rfl uX9 (by decide) rfl fw_X9_71 rfl dX9_wouldTell_41 ?_
        refine r_iload_n_1 dX9_wouldTell_44 rfl ?_
        refine r_iload_n_2 dX9_wouldTell_45 rfl ?_
        refine r_callVU (cc := 8) [] (am_X8_spread p1 p2 q4.2) rfl rfl cf_X8_spread mw_X9_262 (by decide) dX9_wouldTell_46 rfl (Nat.le_of_ble_eq_true rfl) ⟨rfl, rfl⟩ (fun q5 => ?_)
        refine r_aload_n_0 dX9_wouldTell_49 rfl ?_
        refine r_getr (t := 72) (cc := 9) 11 rfl rfl uX9 (by decide) rfl fw_X9_71 rfl dX9_wouldTell_50 ?_
        refine r_getr (t := 82) (cc := 8) 13 rfl rfl uX8 (by decide) rfl fw_X9_266 rfl dX9_wouldTell_53 ?_
        refine r_iload_n_3 dX9_wouldTell_56 rfl ?_
        refine r_callSL [] (am_X9_longAt 82 rfl p3 q5.2) cf_X9_longAt mw_X9_270 (by decide) dX9_wouldTell_57 rfl (Nat.le_of_ble_eq_true rfl) ⟨rfl, rfl⟩ (fun q6 => ?_)
        exact r_lreturn dX9_wouldTell_60 rfl
      · refine r_ldc2 dX9_wouldTell_29 kw_X9_193 ?_
        exact r_lreturn dX9_wouldTell_32 rfl
theorem cf_X9_wouldTell : CFv mi_X9_wouldTell 3 := ⟨iw_X9_wouldTell, vw_X9_wouldTell, nw_X9, cw_X9_wouldTell, by unfold plainF; decide +kernel⟩
abbrev si_X10_alike : SI := (cX10_alike, RX10, 8, (some .int), 0, 0)
def f_X10_alike_6B (k6 : Int32 → Int32 → Int64 → Int32 → Int32 → Int32 → DD → Option (Int32 × DD)) (v1 : Int32) (v2 : Int32) (v3 : Int64) (v5 : Int32) (v6 : Int32) (v7 : Int32) (d : DD) : Option (Int32 × DD) :=
  if ixb v1 (ln 95) then
  if v7 < (d.1 95 v1.toNatClampNeg) then
    if ((v3 >>> (v7.toInt64 &&& 63)) &&& (1 : Int64)) = (1 : Int64) then
      if ixb (((36 : Int32) * v1) + v7) (ln 94) then
        if ixb (((36 : Int32) * v1) + v5) (ln 94) then
          if ixb ((15 : Int32) + v2) (ln 88) then
            if (((d.1 94 (((36 : Int32) * v1) + v7).toNatClampNeg) ^^^ (d.1 94 (((36 : Int32) * v1) + v5).toNatClampNeg)) &&& (d.1 88 ((15 : Int32) + v2).toNatClampNeg)) = 0 then
              bd (v6 + (1 : Int32)) fun x3 =>
                k6 v1 v2 v3 v5 x3 (v7 + (1 : Int32)) d
              else
              bd (v6 + (0 : Int32)) fun x2 =>
                k6 v1 v2 v3 v5 x2 (v7 + (1 : Int32)) d
            else none
          else none
        else none
      else
      bd (v6 + (0 : Int32)) fun x1 =>
        k6 v1 v2 v3 v5 x1 (v7 + (1 : Int32)) d
    else
    some (v6, d)
  else none
def f_X10_alike_6 : Nat → Int32 → Int32 → Int64 → Int32 → Int32 → Int32 → DD → Option (Int32 × DD)
  | 0, _, _, _, _, _, _, _ => none
  | n + 1, v1, v2, v3, v5, v6, v7, d => f_X10_alike_6B (f_X10_alike_6 n) v1 v2 v3 v5 v6 v7 d
set_option maxRecDepth 100000 in
set_option maxHeartbeats 4000000 in
theorem w_X10_alike_6B {E : XE} (k6 : Int32 → Int32 → Int64 → Int32 → Int32 → Int32 → DD → Option (Int32 × DD)) (hk6 : ∀ (v1 : Int32) (v2 : Int32) (v3 : Int64) (v5 : Int32) (v6 : Int32) (v7 : Int32) (d : DD), AW E si_X10_alike 0 0 (QM E wrI) (k6 v1 v2 v3 v5 v6 v7 d) 6 [(0, .ref 86), (1, .int v1), (2, .int v2), (3, .long v3), (5, .int v5), (6, .int v6), (7, .int v7)] [] d) (v1 : Int32) (v2 : Int32) (v3 : Int64) (v5 : Int32) (v6 : Int32) (v7 : Int32) (d : DD) : AW E si_X10_alike 0 0 (QM E wrI) (f_X10_alike_6B k6 v1 v2 v3 v5 v6 v7 d) 6 [(0, .ref 86), (1, .int v1), (2, .int v2), (3, .long v3), (5, .int v5), (6, .int v6), (7, .int v7)] [] d := by
  unfold f_X10_alike_6B
  refine r_iload_w_6 dX10_alike_6 ?_
  refine r_aload_n_0 dX10_alike_8 rfl ?_
  refine r_getr (t := 95) (cc := 10) 22 rfl rfl uX10 (by decide) rfl fw_X10_64 rfl dX10_alike_9 ?_
  refine r_iload_n_1 dX10_alike_12 rfl ?_
  refine r_iaload rfl dX10_alike_13 ?_
  refine r_icmp_ge (tgt := 82) dX10_alike_14 (by decide) ?_ ?_
  · refine r_iload_w_5 dX10_alike_82 ?_
    exact r_ireturn dX10_alike_84 rfl
  · refine r_iload_w_5 dX10_alike_17 ?_
    refine r_lload_n_3 dX10_alike_19 rfl ?_
    refine r_iload_w_6 dX10_alike_20 ?_
    refine r_lshr dX10_alike_22 ?_
    refine r_lconst dX10_alike_23 kl_1 ?_
    refine r_land dX10_alike_24 ?_
    refine r_lconst dX10_alike_25 kl_1 ?_
    refine r_lcmp_ne (tgt := 72) dX10_alike_26 dX10_alike_27 (by decide) ?_ ?_
    · refine r_iconst dX10_alike_72 ki_0 ?_
      refine r_iadd dX10_alike_73 ?_
      refine r_bdI (fun x1 => ?_)
      refine r_istore_w_5 dX10_alike_74 (by decide) rfl ?_
      refine r_iinc_6 dX10_alike_76 ki_1 (by decide) rfl ?_
      refine r_goto (tgt := 6) dX10_alike_79 (by decide) ?_
      exact hk6 v1 v2 v3 v5 x1 (v7 + (1 : Int32)) d
    · refine r_aload_n_0 dX10_alike_30 rfl ?_
      refine r_getr (t := 94) (cc := 10) 21 rfl rfl uX10 (by decide) rfl fw_X10_61 rfl dX10_alike_31 ?_
      refine r_bipush dX10_alike_34 kb_36 ?_
      refine r_iload_n_1 dX10_alike_36 rfl ?_
      refine r_imul dX10_alike_37 ?_
      refine r_iload_w_6 dX10_alike_38 ?_
      refine r_iadd dX10_alike_40 ?_
      refine r_iaload rfl dX10_alike_41 ?_
      refine r_aload_n_0 dX10_alike_42 rfl ?_
      refine r_getr (t := 94) (cc := 10) 21 rfl rfl uX10 (by decide) rfl fw_X10_61 rfl dX10_alike_43 ?_
      refine r_bipush dX10_alike_46 kb_36 ?_
      refine r_iload_n_1 dX10_alike_48 rfl ?_
      refine r_imul dX10_alike_49 ?_
      refine r_iload_w_4 dX10_alike_50 ?_
      refine r_iadd dX10_alike_52 ?_
      refine r_iaload rfl dX10_alike_53 ?_
      refine r_ixor dX10_alike_54 ?_
      refine r_aload_n_0 dX10_alike_55 rfl ?_
      refine r_getr (t := 88) (cc := 10) 6 rfl rfl uX10 (by decide) rfl fw_X10_41 rfl dX10_alike_56 ?_
      refine r_bipush dX10_alike_59 kb_15 ?_
      refine r_iload_n_2 dX10_alike_61 rfl ?_
      refine r_iadd dX10_alike_62 ?_
      refine r_iaload rfl dX10_alike_63 ?_
      refine r_iand dX10_alike_64 ?_
      refine r_if_ne (tgt := 72) dX10_alike_65 (by decide) ?_ ?_
      · refine r_iconst dX10_alike_72 ki_0 ?_
        refine r_iadd dX10_alike_73 ?_
        refine r_bdI (fun x2 => ?_)
        refine r_istore_w_5 dX10_alike_74 (by decide) rfl ?_
        refine r_iinc_6 dX10_alike_76 ki_1 (by decide) rfl ?_
        refine r_goto (tgt := 6) dX10_alike_79 (by decide) ?_
        exact hk6 v1 v2 v3 v5 x2 (v7 + (1 : Int32)) d
      · refine r_iconst dX10_alike_68 ki_1 ?_
        refine r_goto (tgt := 73) dX10_alike_69 (by decide) ?_
        refine r_iadd dX10_alike_73 ?_
        refine r_bdI (fun x3 => ?_)
        refine r_istore_w_5 dX10_alike_74 (by decide) rfl ?_
        refine r_iinc_6 dX10_alike_76 ki_1 (by decide) rfl ?_
        refine r_goto (tgt := 6) dX10_alike_79 (by decide) ?_
        exact hk6 v1 v2 v3 v5 x3 (v7 + (1 : Int32)) d
theorem w_X10_alike_6 {E : XE} (n : Nat) : ∀ (v1 : Int32) (v2 : Int32) (v3 : Int64) (v5 : Int32) (v6 : Int32) (v7 : Int32) (d : DD), AW E si_X10_alike 0 0 (QM E wrI) (f_X10_alike_6 n v1 v2 v3 v5 v6 v7 d) 6 [(0, .ref 86), (1, .int v1), (2, .int v2), (3, .long v3), (5, .int v5), (6, .int v6), (7, .int v7)] [] d := by
  induction n with
  | zero => intros; exact r_none
  | succ n ih => intro v1 v2 v3 v5 v6 v7 d; exact w_X10_alike_6B (f_X10_alike_6 n) ih v1 v2 v3 v5 v6 v7 d
def f_X10_alike (p1 : Int32) (p2 : Int32) (p3 : Int64) (p5 : Int32) (d : DD) : Option (Int32 × DD) :=
  f_X10_alike_6 FU p1 p2 p3 p5 (0 : Int32) (0 : Int32) d
set_option maxRecDepth 100000 in
set_option maxHeartbeats 4000000 in
theorem am_X10_alike (p1 : Int32) (p2 : Int32) (p3 : Int64) (p5 : Int32) (d : DD) : AM wrI mi_X10_alike 0 0 [.ref 86, .int p1, .int p2, .long p3, .int p5] d (f_X10_alike p1 p2 p3 p5 d) := by
  refine AM_intro (si := si_X10_alike) (lv := [(0, .ref 86), (1, .int p1), (2, .int p2), (3, .long p3), (5, .int p5)]) rfl (by decide +kernel) rfl (Nat.le_of_ble_eq_true rfl) (fun E => ?_)
  unfold f_X10_alike
  refine r_iconst dX10_alike_0 ki_0 ?_
  refine r_istore_w_x dX10_alike_1 (by decide) rfl ?_
  refine r_iconst dX10_alike_3 ki_0 ?_
  refine r_istore_w_x dX10_alike_4 (by decide) rfl ?_
  refine r_sub [2, 3, 4, 5, 6, 1, 0] (lv' := [(0, .ref 86), (1, .int p1), (2, .int p2), (3, .long p3), (5, .int p5), (6, .int (0 : Int32)), (7, .int (0 : Int32))]) rfl ?_
  exact w_X10_alike_6 FU p1 p2 p3 p5 (0 : Int32) (0 : Int32) d
theorem cf_X10_alike : CFv mi_X10_alike 4 := ⟨iw_X10_alike, vw_X10_alike, nw_X10, cw_X10_alike, by unfold plainF; decide +kernel⟩
abbrev si_X10_bad : SI := (cX10_bad, RX10, 2, (some .boolean), 0, 0)
def f_X10_bad (p1 : Int32) (d : DD) : Option (Int32 × DD) :=
  bd (u1 d 86 16 p1) fun d1 =>
  bd (u1 d1 86 17 (d1.1 86 13)) fun d2 =>
  some ((0 : Int32), d2)
set_option maxRecDepth 100000 in
set_option maxHeartbeats 4000000 in
theorem am_X10_bad (p1 : Int32) (d : DD) : AM wrI mi_X10_bad 0 0 [.ref 86, .int p1] d (f_X10_bad p1 d) := by
  refine AM_intro (si := si_X10_bad) (lv := [(0, .ref 86), (1, .int p1)]) rfl (by decide +kernel) rfl (Nat.le_of_ble_eq_true rfl) (fun E => ?_)
  unfold f_X10_bad
  refine r_aload_n_0 dX10_bad_0 rfl ?_
  refine r_iload_n_1 dX10_bad_1 rfl ?_
  refine r_puti (cc := 10) 16 tyX10 tyX10_ok nmX10 rfl (by decide +kernel) rfl rfl uX10 (by decide) rfl fw_X10_157 dX10_bad_2 ?_
  refine r_bd (fun d1 => ?_)
  refine r_aload_n_0 dX10_bad_5 rfl ?_
  refine r_aload_n_0 dX10_bad_6 rfl ?_
  refine r_geti (cc := 10) 13 rfl rfl uX10 (by decide) rfl fw_X10_134 dX10_bad_7 ?_
  refine r_puti (cc := 10) 17 tyX10 tyX10_ok nmX10 rfl (by decide +kernel) rfl rfl uX10 (by decide) rfl fw_X10_160 dX10_bad_10 ?_
  refine r_bd (fun d2 => ?_)
  refine r_iconst dX10_bad_13 ki_0 ?_
  exact r_zreturn dX10_bad_14 rfl rfl
theorem cf_X10_bad : CFv mi_X10_bad 1 := ⟨iw_X10_bad, vw_X10_bad, nw_X10, cw_X10_bad, by unfold plainF; decide +kernel⟩
abbrev si_X10_isIn : SI := (cX10_isIn, RX10, 3, (some .boolean), 0, 0)
def f_X10_isIn (p0 : Int32) (p1 : Int32) (p2 : Int32) (d : DD) : Option (Int32 × DD) :=
  if p0 < p1 then
  some ((0 : Int32), d)
  else
  if p2 < p0 then
    some ((0 : Int32), d)
    else
    some ((1 : Int32), d)
set_option maxRecDepth 100000 in
set_option maxHeartbeats 4000000 in
theorem am_X10_isIn (p0 : Int32) (p1 : Int32) (p2 : Int32) (d : DD) : AM wrI mi_X10_isIn 0 0 [.int p0, .int p1, .int p2] d (f_X10_isIn p0 p1 p2 d) := by
  refine AM_intro (si := si_X10_isIn) (lv := [(0, .int p0), (1, .int p1), (2, .int p2)]) rfl (by decide +kernel) rfl (Nat.le_of_ble_eq_true rfl) (fun E => ?_)
  unfold f_X10_isIn
  refine r_iload_n_0 dX10_isIn_0 rfl ?_
  refine r_iload_n_1 dX10_isIn_1 rfl ?_
  refine r_icmp_lt (tgt := 14) dX10_isIn_2 (by decide) ?_ ?_
  · refine r_iconst dX10_isIn_14 ki_0 ?_
    exact r_zreturn dX10_isIn_15 rfl rfl
  · refine r_iload_n_0 dX10_isIn_5 rfl ?_
    refine r_iload_n_2 dX10_isIn_6 rfl ?_
    refine r_icmp_gt (tgt := 14) dX10_isIn_7 (by decide) ?_ ?_
    · refine r_iconst dX10_isIn_14 ki_0 ?_
      exact r_zreturn dX10_isIn_15 rfl rfl
    · refine r_iconst dX10_isIn_10 ki_1 ?_
      refine r_goto (tgt := 15) dX10_isIn_11 (by decide) ?_
      exact r_zreturn dX10_isIn_15 rfl rfl
theorem cf_X10_isIn : CFs mi_X10_isIn 3 := ⟨sw_X10_isIn, nw_X10, cw_X10_isIn, by unfold plainF; decide +kernel⟩
abbrev si_X10_isKind : SI := (cX10_isKind, RX10, 2, (some .boolean), 1, 22)
def f_X10_isKind (p1 : Int32) (d : DD) : Option (Int32 × DD) :=
  if ixb (0 : Int32) (ln 88) then
  (f_X10_isIn p1 (0 : Int32) ((d.1 88 (0 : Int32).toNatClampNeg) - (1 : Int32)) d).bind fun q1 =>
    if q1.1 = 0 ∨ q1.1 = 1 then some (q1.1, q1.2) else none
  else none
set_option maxRecDepth 100000 in
set_option maxHeartbeats 4000000 in
theorem am_X10_isKind (p1 : Int32) (d : DD) : AM wrI mi_X10_isKind 1 22 [.ref 86, .int p1] d (f_X10_isKind p1 d) := by
  refine AM_intro (si := si_X10_isKind) (lv := [(0, .ref 86), (1, .int p1)]) rfl (by decide +kernel) rfl (Nat.le_of_ble_eq_true rfl) (fun E => ?_)
  unfold f_X10_isKind
  refine r_iload_n_1 dX10_isKind_0 rfl ?_
  refine r_iconst dX10_isKind_1 ki_0 ?_
  refine r_aload_n_0 dX10_isKind_2 rfl ?_
  refine r_getr (t := 88) (cc := 10) 6 rfl rfl uX10 (by decide) rfl fw_X10_41 rfl dX10_isKind_3 ?_
  refine r_iconst dX10_isKind_6 ki_0 ?_
  refine r_iaload rfl dX10_isKind_7 ?_
  refine r_iconst dX10_isKind_8 ki_1 ?_
  refine r_isub dX10_isKind_9 ?_
  refine r_callSI [] (am_X10_isIn p1 (0 : Int32) ((d.1 88 (0 : Int32).toNatClampNeg) - (1 : Int32)) d) cf_X10_isIn mw_X10_172 (by decide) dX10_isKind_10 rfl (Nat.le_of_ble_eq_true rfl) ⟨rfl, rfl⟩ (fun q1 => ?_)
  exact r_breturn dX10_isKind_13 rfl
theorem cf_X10_isKind : CFv mi_X10_isKind 1 := ⟨iw_X10_isKind, vw_X10_isKind, nw_X10, cw_X10_isKind, by unfold plainF; decide +kernel⟩
abbrev si_X10_isHour : SI := (cX10_isHour, RX10, 1, (some .boolean), 1, 22)
def f_X10_isHour (p0 : Int32) (d : DD) : Option (Int32 × DD) :=
  (f_X10_isIn p0 (0 : Int32) (29 : Int32) d).bind fun q1 =>
  if q1.1 = 0 ∨ q1.1 = 1 then some (q1.1, q1.2) else none
set_option maxRecDepth 100000 in
set_option maxHeartbeats 4000000 in
theorem am_X10_isHour (p0 : Int32) (d : DD) : AM wrI mi_X10_isHour 1 22 [.int p0] d (f_X10_isHour p0 d) := by
  refine AM_intro (si := si_X10_isHour) (lv := [(0, .int p0)]) rfl (by decide +kernel) rfl (Nat.le_of_ble_eq_true rfl) (fun E => ?_)
  unfold f_X10_isHour
  refine r_iload_n_0 dX10_isHour_0 rfl ?_
  refine r_iconst dX10_isHour_1 ki_0 ?_
  refine r_bipush dX10_isHour_2 kb_29 ?_
  refine r_callSI [] (am_X10_isIn p0 (0 : Int32) (29 : Int32) d) cf_X10_isIn mw_X10_172 (by decide) dX10_isHour_4 rfl (Nat.le_of_ble_eq_true rfl) ⟨rfl, rfl⟩ (fun q1 => ?_)
  exact r_breturn dX10_isHour_7 rfl
theorem cf_X10_isHour : CFs mi_X10_isHour 1 := ⟨sw_X10_isHour, nw_X10, cw_X10_isHour, by unfold plainF; decide +kernel⟩
abbrev si_X10_throwsIf : SI := (cX10_throwsIf, RX10, 2, (some .boolean), 0, 0)
def f_X10_throwsIf (p1 : Int32) (d : DD) : Option (Int32 × DD) :=
  if p1 = 0 then
  bd (u1 d 86 0 (0 : Int32)) fun d1 =>
    if p1 = 0 ∨ p1 = 1 then some (p1, d1) else none
  else
  bd (u1 d 86 0 (1 : Int32)) fun d2 =>
    if p1 = 0 ∨ p1 = 1 then some (p1, d2) else none
set_option maxRecDepth 100000 in
set_option maxHeartbeats 4000000 in
theorem am_X10_throwsIf (p1 : Int32) (d : DD) : AM wrI mi_X10_throwsIf 0 0 [.ref 86, .int p1] d (f_X10_throwsIf p1 d) := by
  refine AM_intro (si := si_X10_throwsIf) (lv := [(0, .ref 86), (1, .int p1)]) rfl (by decide +kernel) rfl (Nat.le_of_ble_eq_true rfl) (fun E => ?_)
  unfold f_X10_throwsIf
  refine r_aload_n_0 dX10_throwsIf_0 rfl ?_
  refine r_iload_n_1 dX10_throwsIf_1 rfl ?_
  refine r_if_eq (tgt := 9) dX10_throwsIf_2 (by decide) ?_ ?_
  · refine r_iconst dX10_throwsIf_9 ki_0 ?_
    refine r_puti (cc := 10) 0 tyX10 tyX10_ok nmX10 rfl (by decide +kernel) rfl rfl uX10 (by decide) rfl fw_X10_1 dX10_throwsIf_10 ?_
    refine r_bd (fun d1 => ?_)
    refine r_iload_n_1 dX10_throwsIf_13 rfl ?_
    exact r_breturn dX10_throwsIf_14 rfl
  · refine r_iconst dX10_throwsIf_5 ki_1 ?_
    refine r_goto (tgt := 10) dX10_throwsIf_6 (by decide) ?_
    refine r_puti (cc := 10) 0 tyX10 tyX10_ok nmX10 rfl (by decide +kernel) rfl rfl uX10 (by decide) rfl fw_X10_1 dX10_throwsIf_10 ?_
    refine r_bd (fun d2 => ?_)
    refine r_iload_n_1 dX10_throwsIf_13 rfl ?_
    exact r_breturn dX10_throwsIf_14 rfl
theorem cf_X10_throwsIf : CFv mi_X10_throwsIf 1 := ⟨iw_X10_throwsIf, vw_X10_throwsIf, nw_X10, cw_X10_throwsIf, by unfold plainF; decide +kernel⟩
abbrev si_X10_has : SI := (cX10_has, RX10, 2, (some .boolean), 0, 0)
def f_X10_has (p0 : Int32) (p1 : Int32) (d : DD) : Option (Int32 × DD) :=
  if ((p0 >>> (p1 &&& 31)) &&& (1 : Int32)) = (1 : Int32) then
  some ((1 : Int32), d)
  else
  some ((0 : Int32), d)
set_option maxRecDepth 100000 in
set_option maxHeartbeats 4000000 in
theorem am_X10_has (p0 : Int32) (p1 : Int32) (d : DD) : AM wrI mi_X10_has 0 0 [.int p0, .int p1] d (f_X10_has p0 p1 d) := by
  refine AM_intro (si := si_X10_has) (lv := [(0, .int p0), (1, .int p1)]) rfl (by decide +kernel) rfl (Nat.le_of_ble_eq_true rfl) (fun E => ?_)
  unfold f_X10_has
  refine r_iload_n_0 dX10_has_0 rfl ?_
  refine r_iload_n_1 dX10_has_1 rfl ?_
  refine r_ishr dX10_has_2 ?_
  refine r_iconst dX10_has_3 ki_1 ?_
  refine r_iand dX10_has_4 ?_
  refine r_iconst dX10_has_5 ki_1 ?_
  refine r_icmp_ne (tgt := 13) dX10_has_6 (by decide) ?_ ?_
  · refine r_iconst dX10_has_13 ki_0 ?_
    exact r_zreturn dX10_has_14 rfl rfl
  · refine r_iconst dX10_has_9 ki_1 ?_
    refine r_goto (tgt := 14) dX10_has_10 (by decide) ?_
    exact r_zreturn dX10_has_14 rfl rfl
theorem cf_X10_has : CFs mi_X10_has 2 := ⟨sw_X10_has, nw_X10, cw_X10_has, by unfold plainF; decide +kernel⟩
abbrev si_X10_nextHour : SI := (cX10_nextHour, RX10, 5, (some .int), 1, 21)
def f_X10_nextHour_3B (k3 : Int32 → Int32 → Int32 → DD → Option (Int32 × DD)) (v1 : Int32) (v2 : Int32) (v4 : Int32) (d : DD) : Option (Int32 × DD) :=
  if v4 < (30 : Int32) then
  if ixb (((36 : Int32) * v1) + v2) (ln 94) then
    (f_X10_has (d.1 94 (((36 : Int32) * v1) + v2).toNatClampNeg) v4 d).bind fun q1 =>
      if q1.1 = 0 then
      k3 v1 v2 (v4 + (1 : Int32)) q1.2
      else
      some (v4, q1.2)
    else none
  else
  some (v4, d)
def f_X10_nextHour_3 : Nat → Int32 → Int32 → Int32 → DD → Option (Int32 × DD)
  | 0, _, _, _, _ => none
  | n + 1, v1, v2, v4, d => f_X10_nextHour_3B (f_X10_nextHour_3 n) v1 v2 v4 d
set_option maxRecDepth 100000 in
set_option maxHeartbeats 4000000 in
theorem w_X10_nextHour_3B {E : XE} (k3 : Int32 → Int32 → Int32 → DD → Option (Int32 × DD)) (hk3 : ∀ (v1 : Int32) (v2 : Int32) (v4 : Int32) (d : DD), AW E si_X10_nextHour 0 0 (QM E wrI) (k3 v1 v2 v4 d) 3 [(0, .ref 86), (1, .int v1), (2, .int v2), (4, .int v4)] [] d) (v1 : Int32) (v2 : Int32) (v4 : Int32) (d : DD) : AW E si_X10_nextHour 0 0 (QM E wrI) (f_X10_nextHour_3B k3 v1 v2 v4 d) 3 [(0, .ref 86), (1, .int v1), (2, .int v2), (4, .int v4)] [] d := by
  unfold f_X10_nextHour_3B
  refine r_iload_w_3 dX10_nextHour_3 ?_
  refine r_bipush dX10_nextHour_5 kb_30 ?_
  refine r_icmp_ge (tgt := 35) dX10_nextHour_7 (by decide) ?_ ?_
  · refine r_iload_w_3 dX10_nextHour_35 ?_
    exact r_ireturn dX10_nextHour_37 rfl
  · refine r_aload_n_0 dX10_nextHour_10 rfl ?_
    refine r_getr (t := 94) (cc := 10) 21 rfl rfl uX10 (by decide) rfl fw_X10_61 rfl dX10_nextHour_11 ?_
    refine r_bipush dX10_nextHour_14 kb_36 ?_
    refine r_iload_n_1 dX10_nextHour_16 rfl ?_
    refine r_imul dX10_nextHour_17 ?_
    refine r_iload_n_2 dX10_nextHour_18 rfl ?_
    refine r_iadd dX10_nextHour_19 ?_
    refine r_iaload rfl dX10_nextHour_20 ?_
    refine r_iload_w_3 dX10_nextHour_21 ?_
    refine r_callSI [] (am_X10_has (d.1 94 (((36 : Int32) * v1) + v2).toNatClampNeg) v4 d) cf_X10_has mw_X10_213 (by decide) dX10_nextHour_23 rfl (Nat.le_of_ble_eq_true rfl) ⟨rfl, rfl⟩ (fun q1 => ?_)
    refine r_if_ne (tgt := 35) dX10_nextHour_26 (by decide) ?_ ?_
    · refine r_iload_w_3 dX10_nextHour_35 ?_
      exact r_ireturn dX10_nextHour_37 rfl
    · refine r_iinc_3 dX10_nextHour_29 ki_1 (by decide) rfl ?_
      refine r_goto (tgt := 3) dX10_nextHour_32 (by decide) ?_
      exact hk3 v1 v2 (v4 + (1 : Int32)) q1.2
theorem w_X10_nextHour_3 {E : XE} (n : Nat) : ∀ (v1 : Int32) (v2 : Int32) (v4 : Int32) (d : DD), AW E si_X10_nextHour 0 0 (QM E wrI) (f_X10_nextHour_3 n v1 v2 v4 d) 3 [(0, .ref 86), (1, .int v1), (2, .int v2), (4, .int v4)] [] d := by
  induction n with
  | zero => intros; exact r_none
  | succ n ih => intro v1 v2 v4 d; exact w_X10_nextHour_3B (f_X10_nextHour_3 n) ih v1 v2 v4 d
def f_X10_nextHour (p1 : Int32) (p2 : Int32) (p3 : Int32) (d : DD) : Option (Int32 × DD) :=
  f_X10_nextHour_3 FU p1 p2 p3 d
set_option maxRecDepth 100000 in
set_option maxHeartbeats 4000000 in
theorem am_X10_nextHour (p1 : Int32) (p2 : Int32) (p3 : Int32) (d : DD) : AM wrI mi_X10_nextHour 1 21 [.ref 86, .int p1, .int p2, .int p3] d (f_X10_nextHour p1 p2 p3 d) := by
  refine AM_intro (si := si_X10_nextHour) (lv := [(0, .ref 86), (1, .int p1), (2, .int p2), (3, .int p3)]) rfl (by decide +kernel) rfl (Nat.le_of_ble_eq_true rfl) (fun E => ?_)
  unfold f_X10_nextHour
  refine r_iload_n_3 dX10_nextHour_0 rfl ?_
  refine r_istore_w_x dX10_nextHour_1 (by decide) rfl ?_
  refine r_sub [1, 2, 3, 0] (lv' := [(0, .ref 86), (1, .int p1), (2, .int p2), (4, .int p3)]) rfl ?_
  exact w_X10_nextHour_3 FU p1 p2 p3 d
theorem cf_X10_nextHour : CFv mi_X10_nextHour 3 := ⟨iw_X10_nextHour, vw_X10_nextHour, nw_X10, cw_X10_nextHour, by unfold plainF; decide +kernel⟩
abbrev si_X10_letting : SI := (cX10_letting, RX10, 11, (some .long), 1, 21)
def f_X10_letting_111 (k70 : Int32 → Int32 → Int32 → Int64 → Int32 → DD → Option (Int64 × DD)) (v2 : Int32) (v4 : Int32) (v7 : Int32) (v8 : Int64) (v10 : Int32) (t0 : Int32) (d : DD) : Option (Int64 × DD) :=
  if t0 = v4 then
  bd (v8 ||| ((1 : Int64) <<< (v10.toInt64 &&& 63))) fun x2 =>
    k70 v2 v4 v7 x2 (v10 + (1 : Int32)) d
  else
  k70 v2 v4 v7 v8 (v10 + (1 : Int32)) d
set_option maxRecDepth 100000 in
set_option maxHeartbeats 4000000 in
theorem w_X10_letting_111 {E : XE} (k70 : Int32 → Int32 → Int32 → Int64 → Int32 → DD → Option (Int64 × DD)) (hk70 : ∀ (v2 : Int32) (v4 : Int32) (v7 : Int32) (v8 : Int64) (v10 : Int32) (d : DD), AW E si_X10_letting 0 0 (QM E wrL) (k70 v2 v4 v7 v8 v10 d) 70 [(0, .ref 86), (2, .int v2), (4, .int v4), (7, .int v7), (8, .long v8), (10, .int v10)] [] d) (v2 : Int32) (v4 : Int32) (v7 : Int32) (v8 : Int64) (v10 : Int32) (t0 : Int32) (d : DD) : AW E si_X10_letting 0 0 (QM E wrL) (f_X10_letting_111 k70 v2 v4 v7 v8 v10 t0 d) 111 [(0, .ref 86), (2, .int v2), (4, .int v4), (7, .int v7), (8, .long v8), (10, .int v10)] [.int t0] d := by
  unfold f_X10_letting_111
  refine r_iload_w_2 dX10_letting_111 ?_
  refine r_icmp_ne (tgt := 125) dX10_letting_113 (by decide) ?_ ?_
  · refine r_iinc_5 dX10_letting_125 ki_1 (by decide) rfl ?_
    refine r_goto (tgt := 70) dX10_letting_128 (by decide) ?_
    exact hk70 v2 v4 v7 v8 (v10 + (1 : Int32)) d
  · refine r_lload_w_4 dX10_letting_116 ?_
    refine r_lconst dX10_letting_118 kl_1 ?_
    refine r_iload_w_5 dX10_letting_119 ?_
    refine r_lshl dX10_letting_121 ?_
    refine r_lor dX10_letting_122 ?_
    refine r_bdJ (fun x2 => ?_)
    refine r_lstore_w_4 dX10_letting_123 (by decide) rfl ?_
    refine r_iinc_5 dX10_letting_125 ki_1 (by decide) rfl ?_
    refine r_goto (tgt := 70) dX10_letting_128 (by decide) ?_
    exact hk70 v2 v4 v7 x2 (v10 + (1 : Int32)) d
def f_X10_letting_110 (k70 : Int32 → Int32 → Int32 → Int64 → Int32 → DD → Option (Int64 × DD)) (v2 : Int32) (v4 : Int32) (v7 : Int32) (v8 : Int64) (v10 : Int32) (d : DD) : Option (Int64 × DD) :=
  f_X10_letting_111 k70 v2 v4 v7 v8 v10 (0 : Int32) d
set_option maxRecDepth 100000 in
set_option maxHeartbeats 4000000 in
theorem w_X10_letting_110 {E : XE} (k70 : Int32 → Int32 → Int32 → Int64 → Int32 → DD → Option (Int64 × DD)) (hk70 : ∀ (v2 : Int32) (v4 : Int32) (v7 : Int32) (v8 : Int64) (v10 : Int32) (d : DD), AW E si_X10_letting 0 0 (QM E wrL) (k70 v2 v4 v7 v8 v10 d) 70 [(0, .ref 86), (2, .int v2), (4, .int v4), (7, .int v7), (8, .long v8), (10, .int v10)] [] d) (v2 : Int32) (v4 : Int32) (v7 : Int32) (v8 : Int64) (v10 : Int32) (d : DD) : AW E si_X10_letting 0 0 (QM E wrL) (f_X10_letting_110 k70 v2 v4 v7 v8 v10 d) 110 [(0, .ref 86), (2, .int v2), (4, .int v4), (7, .int v7), (8, .long v8), (10, .int v10)] [] d := by
  unfold f_X10_letting_110
  refine r_iconst dX10_letting_110 ki_0 ?_
  exact w_X10_letting_111 k70 hk70 v2 v4 v7 v8 v10 (0 : Int32) d
def f_X10_letting_70B (k70 : Int32 → Int32 → Int32 → Int64 → Int32 → DD → Option (Int64 × DD)) (v2 : Int32) (v4 : Int32) (v7 : Int32) (v8 : Int64) (v10 : Int32) (d : DD) : Option (Int64 × DD) :=
  if ixb v2 (ln 95) then
  if v10 < (d.1 95 v2.toNatClampNeg) then
    if v7 < 0 then
      f_X10_letting_110 k70 v2 v4 v7 v8 v10 d
      else
      if ixb (((36 : Int32) * v2) + v10) (ln 94) then
        (f_X10_has (d.1 94 (((36 : Int32) * v2) + v10).toNatClampNeg) v7 d).bind fun q3 =>
          if q3.1 = 0 then
          f_X10_letting_110 k70 v2 v4 v7 v8 v10 q3.2
          else
          f_X10_letting_111 k70 v2 v4 v7 v8 v10 (1 : Int32) q3.2
        else none
    else
    some (v8, d)
  else none
def f_X10_letting_70 : Nat → Int32 → Int32 → Int32 → Int64 → Int32 → DD → Option (Int64 × DD)
  | 0, _, _, _, _, _, _ => none
  | n + 1, v2, v4, v7, v8, v10, d => f_X10_letting_70B (f_X10_letting_70 n) v2 v4 v7 v8 v10 d
set_option maxRecDepth 100000 in
set_option maxHeartbeats 4000000 in
theorem w_X10_letting_70B {E : XE} (k70 : Int32 → Int32 → Int32 → Int64 → Int32 → DD → Option (Int64 × DD)) (hk70 : ∀ (v2 : Int32) (v4 : Int32) (v7 : Int32) (v8 : Int64) (v10 : Int32) (d : DD), AW E si_X10_letting 0 0 (QM E wrL) (k70 v2 v4 v7 v8 v10 d) 70 [(0, .ref 86), (2, .int v2), (4, .int v4), (7, .int v7), (8, .long v8), (10, .int v10)] [] d) (v2 : Int32) (v4 : Int32) (v7 : Int32) (v8 : Int64) (v10 : Int32) (d : DD) : AW E si_X10_letting 0 0 (QM E wrL) (f_X10_letting_70B k70 v2 v4 v7 v8 v10 d) 70 [(0, .ref 86), (2, .int v2), (4, .int v4), (7, .int v7), (8, .long v8), (10, .int v10)] [] d := by
  unfold f_X10_letting_70B
  refine r_iload_w_5 dX10_letting_70 ?_
  refine r_aload_n_0 dX10_letting_72 rfl ?_
  refine r_getr (t := 95) (cc := 10) 22 rfl rfl uX10 (by decide) rfl fw_X10_64 rfl dX10_letting_73 ?_
  refine r_iload_n_1 dX10_letting_76 rfl ?_
  refine r_iaload rfl dX10_letting_77 ?_
  refine r_icmp_ge (tgt := 131) dX10_letting_78 (by decide) ?_ ?_
  · refine r_lload_w_4 dX10_letting_131 ?_
    exact r_lreturn dX10_letting_133 rfl
  · refine r_iload_w_3 dX10_letting_81 ?_
    refine r_if_lt (tgt := 110) dX10_letting_83 (by decide) ?_ ?_
    · exact w_X10_letting_110 k70 hk70 v2 v4 v7 v8 v10 d
    · refine r_aload_n_0 dX10_letting_86 rfl ?_
      refine r_getr (t := 94) (cc := 10) 21 rfl rfl uX10 (by decide) rfl fw_X10_61 rfl dX10_letting_87 ?_
      refine r_bipush dX10_letting_90 kb_36 ?_
      refine r_iload_n_1 dX10_letting_92 rfl ?_
      refine r_imul dX10_letting_93 ?_
      refine r_iload_w_5 dX10_letting_94 ?_
      refine r_iadd dX10_letting_96 ?_
      refine r_iaload rfl dX10_letting_97 ?_
      refine r_iload_w_3 dX10_letting_98 ?_
      refine r_callSI [] (am_X10_has (d.1 94 (((36 : Int32) * v2) + v10).toNatClampNeg) v7 d) cf_X10_has mw_X10_213 (by decide) dX10_letting_100 rfl (Nat.le_of_ble_eq_true rfl) ⟨rfl, rfl⟩ (fun q3 => ?_)
      refine r_if_eq (tgt := 110) dX10_letting_103 (by decide) ?_ ?_
      · exact w_X10_letting_110 k70 hk70 v2 v4 v7 v8 v10 q3.2
      · refine r_iconst dX10_letting_106 ki_1 ?_
        refine r_goto (tgt := 111) dX10_letting_107 (by decide) ?_
        exact w_X10_letting_111 k70 hk70 v2 v4 v7 v8 v10 (1 : Int32) q3.2
theorem w_X10_letting_70 {E : XE} (n : Nat) : ∀ (v2 : Int32) (v4 : Int32) (v7 : Int32) (v8 : Int64) (v10 : Int32) (d : DD), AW E si_X10_letting 0 0 (QM E wrL) (f_X10_letting_70 n v2 v4 v7 v8 v10 d) 70 [(0, .ref 86), (2, .int v2), (4, .int v4), (7, .int v7), (8, .long v8), (10, .int v10)] [] d := by
  induction n with
  | zero => intros; exact r_none
  | succ n ih => intro v2 v4 v7 v8 v10 d; exact w_X10_letting_70B (f_X10_letting_70 n) ih v2 v4 v7 v8 v10 d
def f_X10_letting_50 (v1 : Int32) (v2 : Int32) (v3 : Int32) (v4 : Int32) (d : DD) : Option (Int64 × DD) :=
  if v1 = (1 : Int32) then
  bd (v3 - (1 : Int32)) fun x4 =>
    f_X10_letting_70 FU v2 v4 x4 (0 : Int64) (0 : Int32) d
  else
  f_X10_letting_70 FU v2 v4 v3 (0 : Int64) (0 : Int32) d
set_option maxRecDepth 100000 in
set_option maxHeartbeats 4000000 in
theorem w_X10_letting_50 {E : XE} (v1 : Int32) (v2 : Int32) (v3 : Int32) (v4 : Int32) (d : DD) : AW E si_X10_letting 0 0 (QM E wrL) (f_X10_letting_50 v1 v2 v3 v4 d) 50 [(0, .ref 86), (1, .int v1), (2, .int v2), (3, .int v3), (4, .int v4)] [] d := by
  unfold f_X10_letting_50
  refine r_iload_n_1 dX10_letting_50 rfl ?_
  refine r_iconst dX10_letting_51 ki_1 ?_
  refine r_icmp_ne (tgt := 61) dX10_letting_52 (by decide) ?_ ?_
  · refine r_iload_n_3 dX10_letting_61 rfl ?_
    refine r_istore_w_x dX10_letting_62 (by decide) rfl ?_
    refine r_lconst dX10_letting_64 kl_0 ?_
    refine r_lstore_w_x dX10_letting_65 (by decide) rfl ?_
    refine r_iconst dX10_letting_67 ki_0 ?_
    refine r_istore_w_x dX10_letting_68 (by decide) rfl ?_
    refine r_sub [3, 5, 7, 2, 1, 0] (lv' := [(0, .ref 86), (2, .int v2), (4, .int v4), (7, .int v3), (8, .long (0 : Int64)), (10, .int (0 : Int32))]) rfl ?_
    exact w_X10_letting_70 FU v2 v4 v3 (0 : Int64) (0 : Int32) d
  · refine r_iload_n_3 dX10_letting_55 rfl ?_
    refine r_iconst dX10_letting_56 ki_1 ?_
    refine r_isub dX10_letting_57 ?_
    refine r_goto (tgt := 62) dX10_letting_58 (by decide) ?_
    refine r_bdI (fun x4 => ?_)
    refine r_istore_w_x dX10_letting_62 (by decide) rfl ?_
    refine r_lconst dX10_letting_64 kl_0 ?_
    refine r_lstore_w_x dX10_letting_65 (by decide) rfl ?_
    refine r_iconst dX10_letting_67 ki_0 ?_
    refine r_istore_w_x dX10_letting_68 (by decide) rfl ?_
    refine r_sub [3, 5, 7, 2, 1, 0] (lv' := [(0, .ref 86), (2, .int v2), (4, .int v4), (7, .int x4), (8, .long (0 : Int64)), (10, .int (0 : Int32))]) rfl ?_
    exact w_X10_letting_70 FU v2 v4 x4 (0 : Int64) (0 : Int32) d
def f_X10_letting_40 (v5 : Int64) (t0 : Int32) (t1 : Int32) (d : DD) : Option (Int64 × DD) :=
  if t1 = t0 then
  some (v5, d)
  else
  some ((0 : Int64), d)
set_option maxRecDepth 100000 in
set_option maxHeartbeats 4000000 in
theorem w_X10_letting_40 {E : XE} (v5 : Int64) (t0 : Int32) (t1 : Int32) (d : DD) : AW E si_X10_letting 0 0 (QM E wrL) (f_X10_letting_40 v5 t0 t1 d) 40 [(5, .long v5)] [.int t0, .int t1] d := by
  unfold f_X10_letting_40
  refine r_icmp_ne (tgt := 48) dX10_letting_40 (by decide) ?_ ?_
  · refine r_lconst dX10_letting_48 kl_0 ?_
    exact r_lreturn dX10_letting_49 rfl
  · refine r_lload_w_0 dX10_letting_43 ?_
    refine r_goto (tgt := 49) dX10_letting_45 (by decide) ?_
    exact r_lreturn dX10_letting_49 rfl
def f_X10_letting (p1 : Int32) (p2 : Int32) (p3 : Int32) (p4 : Int32) (d : DD) : Option (Int64 × DD) :=
  if ixb p2 (ln 95) then
  bd (((1 : Int64) <<< ((d.1 95 p2.toNatClampNeg).toInt64 &&& 63)) - (1 : Int64)) fun x1 =>
    if (1 : Int32) < p1 then
    if ((p1 - (2 : Int32)) / (2 : Int32)) = p2 then
      if (p1 - p1 / (2 : Int32) * (2 : Int32)) = (1 : Int32) then
        f_X10_letting_40 x1 (1 : Int32) p4 d
        else
        f_X10_letting_40 x1 (0 : Int32) p4 d
      else
      f_X10_letting_50 p1 p2 p3 p4 d
    else
    f_X10_letting_50 p1 p2 p3 p4 d
  else none
set_option maxRecDepth 100000 in
set_option maxHeartbeats 4000000 in
theorem am_X10_letting (p1 : Int32) (p2 : Int32) (p3 : Int32) (p4 : Int32) (d : DD) : AM wrL mi_X10_letting 1 21 [.ref 86, .int p1, .int p2, .int p3, .int p4] d (f_X10_letting p1 p2 p3 p4 d) := by
  refine AM_intro (si := si_X10_letting) (lv := [(0, .ref 86), (1, .int p1), (2, .int p2), (3, .int p3), (4, .int p4)]) rfl (by decide +kernel) rfl (Nat.le_of_ble_eq_true rfl) (fun E => ?_)
  unfold f_X10_letting
  refine r_lconst dX10_letting_0 kl_1 ?_
  refine r_aload_n_0 dX10_letting_1 rfl ?_
  refine r_getr (t := 95) (cc := 10) 22 rfl rfl uX10 (by decide) rfl fw_X10_64 rfl dX10_letting_2 ?_
  refine r_iload_n_2 dX10_letting_5 rfl ?_
  refine r_iaload rfl dX10_letting_6 ?_
  refine r_lshl dX10_letting_7 ?_
  refine r_lconst dX10_letting_8 kl_1 ?_
  refine r_lsub dX10_letting_9 ?_
  refine r_bdJ (fun x1 => ?_)
  refine r_lstore_w_x dX10_letting_10 (by decide) rfl ?_
  refine r_iload_n_2 dX10_letting_12 rfl ?_
  refine r_iconst dX10_letting_13 ki_1 ?_
  refine r_icmp_le (tgt := 50) dX10_letting_14 (by decide) ?_ ?_
  · refine r_sub [1, 2, 3, 4, 5] (lv' := [(0, .ref 86), (1, .int p1), (2, .int p2), (3, .int p3), (4, .int p4)]) rfl ?_
    exact w_X10_letting_50 p1 p2 p3 p4 d
  · refine r_iload_n_2 dX10_letting_17 rfl ?_
    refine r_iconst dX10_letting_18 ki_2 ?_
    refine r_isub dX10_letting_19 ?_
    refine r_iconst dX10_letting_20 ki_2 ?_
    refine r_idiv dX10_letting_21 (by decide) ?_
    refine r_iload_n_3 dX10_letting_22 rfl ?_
    refine r_icmp_ne (tgt := 50) dX10_letting_23 (by decide) ?_ ?_
    · refine r_sub [1, 2, 3, 4, 5] (lv' := [(0, .ref 86), (1, .int p1), (2, .int p2), (3, .int p3), (4, .int p4)]) rfl ?_
      exact w_X10_letting_50 p1 p2 p3 p4 d
    · refine r_iload_w_5 dX10_letting_26 ?_
      refine r_iload_n_2 dX10_letting_28 rfl ?_
      refine r_iconst dX10_letting_29 ki_2 ?_
      refine r_irem dX10_letting_30 (by decide) ?_
      refine r_iconst dX10_letting_31 ki_1 ?_
      refine r_icmp_ne (tgt := 39) dX10_letting_32 (by decide) ?_ ?_
      · refine r_iconst dX10_letting_39 ki_0 ?_
        refine r_sub [0] (lv' := [(5, .long x1)]) rfl ?_
        exact w_X10_letting_40 x1 (0 : Int32) p4 d
      · refine r_iconst dX10_letting_35 ki_1 ?_
        refine r_goto (tgt := 40) dX10_letting_36 (by decide) ?_
        refine r_sub [0] (lv' := [(5, .long x1)]) rfl ?_
        exact w_X10_letting_40 x1 (1 : Int32) p4 d
theorem cf_X10_letting : CFv mi_X10_letting 4 := ⟨iw_X10_letting, vw_X10_letting, nw_X10, cw_X10_letting, by unfold plainF; decide +kernel⟩
abbrev si_X10_letAll : SI := (cX10_letAll, RX10, 8, none, 2, 51)
def f_X10_letAll_58B (k2 : Int32 → Int32 → DD → Option (Unit × DD)) (k14 : Int32 → Int32 → Int32 → DD → Option (Unit × DD)) (k31 : Int32 → Int32 → Int32 → Int32 → DD → Option (Unit × DD)) (k58 : Int32 → Int32 → Int32 → Int32 → Int64 → Int32 → DD → Option (Unit × DD)) (v1 : Int32) (v2 : Int32) (v3 : Int32) (v4 : Int32) (v5 : Int64) (v7 : Int32) (d : DD) : Option (Unit × DD) :=
  if v7 < v1 then
  if ixb ((170 : Int32) + ((3 : Int32) * v7)) (ln 88) then
    if (d.1 88 ((170 : Int32) + ((3 : Int32) * v7)).toNatClampNeg) = v2 then
      if ixb (((170 : Int32) + ((3 : Int32) * v7)) + (1 : Int32)) (ln 88) then
        if ixb (((170 : Int32) + ((3 : Int32) * v7)) + (2 : Int32)) (ln 88) then
          (f_X10_has (d.1 88 (((170 : Int32) + ((3 : Int32) * v7)) + (2 : Int32)).toNatClampNeg) v4 d).bind fun q3 =>
            (f_X10_letting v3 v4 (d.1 88 (((170 : Int32) + ((3 : Int32) * v7)) + (1 : Int32)).toNatClampNeg) q3.1 q3.2).bind fun q4 =>
            bd (v5 &&& q4.1) fun x5 =>
            k58 v1 v2 v3 v4 x5 (v7 + (1 : Int32)) q4.2
          else none
        else none
      else
      k58 v1 v2 v3 v4 v5 (v7 + (1 : Int32)) d
    else none
  else
  if ixb ((((24 : Int32) * v2) + ((3 : Int32) * v3)) + v4) (ln 96) then
    bd (u2 d 96 ((((24 : Int32) * v2) + ((3 : Int32) * v3)) + v4).toNatClampNeg v5) fun d2 =>
    k31 v1 v2 v3 (v4 + (1 : Int32)) d2
    else none
def f_X10_letAll_58 (k2 : Int32 → Int32 → DD → Option (Unit × DD)) (k14 : Int32 → Int32 → Int32 → DD → Option (Unit × DD)) (k31 : Int32 → Int32 → Int32 → Int32 → DD → Option (Unit × DD)) : Nat → Int32 → Int32 → Int32 → Int32 → Int64 → Int32 → DD → Option (Unit × DD)
  | 0, _, _, _, _, _, _, _ => none
  | n + 1, v1, v2, v3, v4, v5, v7, d => f_X10_letAll_58B k2 k14 k31 (f_X10_letAll_58 k2 k14 k31 n) v1 v2 v3 v4 v5 v7 d
set_option maxRecDepth 100000 in
set_option maxHeartbeats 4000000 in
theorem w_X10_letAll_58B {E : XE} (k2 : Int32 → Int32 → DD → Option (Unit × DD)) (hk2 : ∀ (v1 : Int32) (v2 : Int32) (d : DD), AW E si_X10_letAll 0 0 (QM E wrU) (k2 v1 v2 d) 2 [(0, .ref 86), (1, .int v1), (2, .int v2)] [] d) (k14 : Int32 → Int32 → Int32 → DD → Option (Unit × DD)) (hk14 : ∀ (v1 : Int32) (v2 : Int32) (v3 : Int32) (d : DD), AW E si_X10_letAll 0 0 (QM E wrU) (k14 v1 v2 v3 d) 14 [(0, .ref 86), (1, .int v1), (2, .int v2), (3, .int v3)] [] d) (k31 : Int32 → Int32 → Int32 → Int32 → DD → Option (Unit × DD)) (hk31 : ∀ (v1 : Int32) (v2 : Int32) (v3 : Int32) (v4 : Int32) (d : DD), AW E si_X10_letAll 0 0 (QM E wrU) (k31 v1 v2 v3 v4 d) 31 [(0, .ref 86), (1, .int v1), (2, .int v2), (3, .int v3), (4, .int v4)] [] d) (k58 : Int32 → Int32 → Int32 → Int32 → Int64 → Int32 → DD → Option (Unit × DD)) (hk58 : ∀ (v1 : Int32) (v2 : Int32) (v3 : Int32) (v4 : Int32) (v5 : Int64) (v7 : Int32) (d : DD), AW E si_X10_letAll 0 0 (QM E wrU) (k58 v1 v2 v3 v4 v5 v7 d) 58 [(0, .ref 86), (1, .int v1), (2, .int v2), (3, .int v3), (4, .int v4), (5, .long v5), (7, .int v7)] [] d) (v1 : Int32) (v2 : Int32) (v3 : Int32) (v4 : Int32) (v5 : Int64) (v7 : Int32) (d : DD) : AW E si_X10_letAll 0 0 (QM E wrU) (f_X10_letAll_58B k2 k14 k31 k58 v1 v2 v3 v4 v5 v7 d) 58 [(0, .ref 86), (1, .int v1), (2, .int v2), (3, .int v3), (4, .int v4), (5, .long v5), (7, .int v7)] [] d := by
  unfold f_X10_letAll_58B
  refine r_iload_w_6 dX10_letAll_58 ?_
  refine r_iload_n_1 dX10_letAll_60 rfl ?_
  refine r_icmp_ge (tgt := 134) dX10_letAll_61 (by decide) ?_ ?_
  · refine r_aload_n_0 dX10_letAll_134 rfl ?_
    refine r_getr (t := 96) (cc := 10) 24 rfl rfl uX10 (by decide) rfl fw_X10_67 rfl dX10_letAll_135 ?_
    refine r_bipush dX10_letAll_138 kb_24 ?_
    refine r_iload_n_2 dX10_letAll_140 rfl ?_
    refine r_imul dX10_letAll_141 ?_
    refine r_iconst dX10_letAll_142 ki_3 ?_
    refine r_iload_n_3 dX10_letAll_143 rfl ?_
    refine r_imul dX10_letAll_144 ?_
    refine r_iadd dX10_letAll_145 ?_
    refine r_iload_w_4 dX10_letAll_146 ?_
    refine r_iadd dX10_letAll_148 ?_
    refine r_lload_w_5 dX10_letAll_149 ?_
    refine r_lastore rfl dX10_letAll_151 ?_
    refine r_bd (fun d2 => ?_)
    refine r_iinc_4 dX10_letAll_152 ki_1 (by decide) rfl ?_
    refine r_goto (tgt := 31) dX10_letAll_155 (by decide) ?_
    refine r_sub [0, 1, 2, 3, 4] (lv' := [(0, .ref 86), (1, .int v1), (2, .int v2), (3, .int v3), (4, .int (v4 + (1 : Int32)))]) rfl ?_
    exact hk31 v1 v2 v3 (v4 + (1 : Int32)) d2
  · refine r_aload_n_0 dX10_letAll_64 rfl ?_
    refine r_getr (t := 88) (cc := 10) 6 rfl rfl uX10 (by decide) rfl fw_X10_41 rfl dX10_letAll_65 ?_
    refine r_sipush dX10_letAll_68 ks_170 ?_
    refine r_iconst dX10_letAll_71 ki_3 ?_
    refine r_iload_w_6 dX10_letAll_72 ?_
    refine r_imul dX10_letAll_74 ?_
    refine r_iadd dX10_letAll_75 ?_
    refine r_iaload rfl dX10_letAll_76 ?_
    refine r_iload_n_2 dX10_letAll_77 rfl ?_
    refine r_icmp_ne (tgt := 128) dX10_letAll_78 (by decide) ?_ ?_
    · refine r_iinc_6 dX10_letAll_128 ki_1 (by decide) rfl ?_
      refine r_goto (tgt := 58) dX10_letAll_131 (by decide) ?_
      exact hk58 v1 v2 v3 v4 v5 (v7 + (1 : Int32)) d
    · refine r_lload_w_5 dX10_letAll_81 ?_
      refine r_aload_n_0 dX10_letAll_83 rfl ?_
      refine r_iload_n_3 dX10_letAll_84 rfl ?_
      refine r_iload_w_4 dX10_letAll_85 ?_
      refine r_aload_n_0 dX10_letAll_87 rfl ?_
      refine r_getr (t := 88) (cc := 10) 6 rfl rfl uX10 (by decide) rfl fw_X10_41 rfl dX10_letAll_88 ?_
      refine r_sipush dX10_letAll_91 ks_170 ?_
      refine r_iconst dX10_letAll_94 ki_3 ?_
      refine r_iload_w_6 dX10_letAll_95 ?_
      refine r_imul dX10_letAll_97 ?_
      refine r_iadd dX10_letAll_98 ?_
      refine r_iconst dX10_letAll_99 ki_1 ?_
      refine r_iadd dX10_letAll_100 ?_
      refine r_iaload rfl dX10_letAll_101 ?_
      refine r_aload_n_0 dX10_letAll_102 rfl ?_
      refine r_getr (t := 88) (cc := 10) 6 rfl rfl uX10 (by decide) rfl fw_X10_41 rfl dX10_letAll_103 ?_
      refine r_sipush dX10_letAll_106 ks_170 ?_
      refine r_iconst dX10_letAll_109 ki_3 ?_
      refine r_iload_w_6 dX10_letAll_110 ?_
      refine r_imul dX10_letAll_112 ?_
      refine r_iadd dX10_letAll_113 ?_
      refine r_iconst dX10_letAll_114 ki_2 ?_
      refine r_iadd dX10_letAll_115 ?_
      refine r_iaload rfl dX10_letAll_116 ?_
      refine r_iload_w_4 dX10_letAll_117 ?_
      refine r_callSI [.int (d.1 88 (((170 : Int32) + ((3 : Int32) * v7)) + (1 : Int32)).toNatClampNeg), .int v4, .int v3, .ref 86, .long v5] (am_X10_has (d.1 88 (((170 : Int32) + ((3 : Int32) * v7)) + (2 : Int32)).toNatClampNeg) v4 d) cf_X10_has mw_X10_213 (by decide) dX10_letAll_119 rfl (Nat.le_of_ble_eq_true rfl) ⟨rfl, rfl⟩ (fun q3 => ?_)
      refine r_callVL (cc := 10) [.long v5] (am_X10_letting v3 v4 (d.1 88 (((170 : Int32) + ((3 : Int32) * v7)) + (1 : Int32)).toNatClampNeg) q3.1 q3.2) rfl rfl cf_X10_letting mw_X10_260 (by decide) dX10_letAll_122 rfl (Nat.le_of_ble_eq_true rfl) ⟨rfl, rfl⟩ (fun q4 => ?_)
      refine r_land dX10_letAll_125 ?_
      refine r_bdJ (fun x5 => ?_)
      refine r_lstore_w_5 dX10_letAll_126 (by decide) rfl ?_
      refine r_iinc_6 dX10_letAll_128 ki_1 (by decide) rfl ?_
      refine r_goto (tgt := 58) dX10_letAll_131 (by decide) ?_
      exact hk58 v1 v2 v3 v4 x5 (v7 + (1 : Int32)) q4.2
theorem w_X10_letAll_58 {E : XE} (k2 : Int32 → Int32 → DD → Option (Unit × DD)) (hk2 : ∀ (v1 : Int32) (v2 : Int32) (d : DD), AW E si_X10_letAll 0 0 (QM E wrU) (k2 v1 v2 d) 2 [(0, .ref 86), (1, .int v1), (2, .int v2)] [] d) (k14 : Int32 → Int32 → Int32 → DD → Option (Unit × DD)) (hk14 : ∀ (v1 : Int32) (v2 : Int32) (v3 : Int32) (d : DD), AW E si_X10_letAll 0 0 (QM E wrU) (k14 v1 v2 v3 d) 14 [(0, .ref 86), (1, .int v1), (2, .int v2), (3, .int v3)] [] d) (k31 : Int32 → Int32 → Int32 → Int32 → DD → Option (Unit × DD)) (hk31 : ∀ (v1 : Int32) (v2 : Int32) (v3 : Int32) (v4 : Int32) (d : DD), AW E si_X10_letAll 0 0 (QM E wrU) (k31 v1 v2 v3 v4 d) 31 [(0, .ref 86), (1, .int v1), (2, .int v2), (3, .int v3), (4, .int v4)] [] d) (n : Nat) : ∀ (v1 : Int32) (v2 : Int32) (v3 : Int32) (v4 : Int32) (v5 : Int64) (v7 : Int32) (d : DD), AW E si_X10_letAll 0 0 (QM E wrU) (f_X10_letAll_58 k2 k14 k31 n v1 v2 v3 v4 v5 v7 d) 58 [(0, .ref 86), (1, .int v1), (2, .int v2), (3, .int v3), (4, .int v4), (5, .long v5), (7, .int v7)] [] d := by
  induction n with
  | zero => intros; exact r_none
  | succ n ih => intro v1 v2 v3 v4 v5 v7 d; exact w_X10_letAll_58B k2 hk2 k14 hk14 k31 hk31 (f_X10_letAll_58 k2 k14 k31 n) ih v1 v2 v3 v4 v5 v7 d
def f_X10_letAll_31B (k2 : Int32 → Int32 → DD → Option (Unit × DD)) (k14 : Int32 → Int32 → Int32 → DD → Option (Unit × DD)) (k31 : Int32 → Int32 → Int32 → Int32 → DD → Option (Unit × DD)) (v1 : Int32) (v2 : Int32) (v3 : Int32) (v4 : Int32) (d : DD) : Option (Unit × DD) :=
  if ixb (0 : Int32) (ln 88) then
  if v4 < (d.1 88 (0 : Int32).toNatClampNeg) then
    if ixb v4 (ln 95) then
      bd (((1 : Int64) <<< ((d.1 95 v4.toNatClampNeg).toInt64 &&& 63)) - (1 : Int64)) fun x1 =>
        f_X10_letAll_58 k2 k14 k31 FU v1 v2 v3 v4 x1 (0 : Int32) d
      else none
    else
    k14 v1 v2 (v3 + (1 : Int32)) d
  else none
def f_X10_letAll_31 (k2 : Int32 → Int32 → DD → Option (Unit × DD)) (k14 : Int32 → Int32 → Int32 → DD → Option (Unit × DD)) : Nat → Int32 → Int32 → Int32 → Int32 → DD → Option (Unit × DD)
  | 0, _, _, _, _, _ => none
  | n + 1, v1, v2, v3, v4, d => f_X10_letAll_31B k2 k14 (f_X10_letAll_31 k2 k14 n) v1 v2 v3 v4 d
set_option maxRecDepth 100000 in
set_option maxHeartbeats 4000000 in
theorem w_X10_letAll_31B {E : XE} (k2 : Int32 → Int32 → DD → Option (Unit × DD)) (hk2 : ∀ (v1 : Int32) (v2 : Int32) (d : DD), AW E si_X10_letAll 0 0 (QM E wrU) (k2 v1 v2 d) 2 [(0, .ref 86), (1, .int v1), (2, .int v2)] [] d) (k14 : Int32 → Int32 → Int32 → DD → Option (Unit × DD)) (hk14 : ∀ (v1 : Int32) (v2 : Int32) (v3 : Int32) (d : DD), AW E si_X10_letAll 0 0 (QM E wrU) (k14 v1 v2 v3 d) 14 [(0, .ref 86), (1, .int v1), (2, .int v2), (3, .int v3)] [] d) (k31 : Int32 → Int32 → Int32 → Int32 → DD → Option (Unit × DD)) (hk31 : ∀ (v1 : Int32) (v2 : Int32) (v3 : Int32) (v4 : Int32) (d : DD), AW E si_X10_letAll 0 0 (QM E wrU) (k31 v1 v2 v3 v4 d) 31 [(0, .ref 86), (1, .int v1), (2, .int v2), (3, .int v3), (4, .int v4)] [] d) (v1 : Int32) (v2 : Int32) (v3 : Int32) (v4 : Int32) (d : DD) : AW E si_X10_letAll 0 0 (QM E wrU) (f_X10_letAll_31B k2 k14 k31 v1 v2 v3 v4 d) 31 [(0, .ref 86), (1, .int v1), (2, .int v2), (3, .int v3), (4, .int v4)] [] d := by
  unfold f_X10_letAll_31B
  refine r_iload_w_4 dX10_letAll_31 ?_
  refine r_aload_n_0 dX10_letAll_33 rfl ?_
  refine r_getr (t := 88) (cc := 10) 6 rfl rfl uX10 (by decide) rfl fw_X10_41 rfl dX10_letAll_34 ?_
  refine r_iconst dX10_letAll_37 ki_0 ?_
  refine r_iaload rfl dX10_letAll_38 ?_
  refine r_icmp_ge (tgt := 158) dX10_letAll_39 (by decide) ?_ ?_
  · refine r_iinc_3 dX10_letAll_158 ki_1 (by decide) rfl ?_
    refine r_goto (tgt := 14) dX10_letAll_161 (by decide) ?_
    refine r_sub [0, 1, 2, 3] (lv' := [(0, .ref 86), (1, .int v1), (2, .int v2), (3, .int (v3 + (1 : Int32)))]) rfl ?_
    exact hk14 v1 v2 (v3 + (1 : Int32)) d
  · refine r_lconst dX10_letAll_42 kl_1 ?_
    refine r_aload_n_0 dX10_letAll_43 rfl ?_
    refine r_getr (t := 95) (cc := 10) 22 rfl rfl uX10 (by decide) rfl fw_X10_64 rfl dX10_letAll_44 ?_
    refine r_iload_w_4 dX10_letAll_47 ?_
    refine r_iaload rfl dX10_letAll_49 ?_
    refine r_lshl dX10_letAll_50 ?_
    refine r_lconst dX10_letAll_51 kl_1 ?_
    refine r_lsub dX10_letAll_52 ?_
    refine r_bdJ (fun x1 => ?_)
    refine r_lstore_w_x dX10_letAll_53 (by decide) rfl ?_
    refine r_iconst dX10_letAll_55 ki_0 ?_
    refine r_istore_w_x dX10_letAll_56 (by decide) rfl ?_
    refine r_sub [2, 3, 4, 5, 6, 1, 0] (lv' := [(0, .ref 86), (1, .int v1), (2, .int v2), (3, .int v3), (4, .int v4), (5, .long x1), (7, .int (0 : Int32))]) rfl ?_
    exact w_X10_letAll_58 k2 hk2 k14 hk14 k31 hk31 FU v1 v2 v3 v4 x1 (0 : Int32) d
theorem w_X10_letAll_31 {E : XE} (k2 : Int32 → Int32 → DD → Option (Unit × DD)) (hk2 : ∀ (v1 : Int32) (v2 : Int32) (d : DD), AW E si_X10_letAll 0 0 (QM E wrU) (k2 v1 v2 d) 2 [(0, .ref 86), (1, .int v1), (2, .int v2)] [] d) (k14 : Int32 → Int32 → Int32 → DD → Option (Unit × DD)) (hk14 : ∀ (v1 : Int32) (v2 : Int32) (v3 : Int32) (d : DD), AW E si_X10_letAll 0 0 (QM E wrU) (k14 v1 v2 v3 d) 14 [(0, .ref 86), (1, .int v1), (2, .int v2), (3, .int v3)] [] d) (n : Nat) : ∀ (v1 : Int32) (v2 : Int32) (v3 : Int32) (v4 : Int32) (d : DD), AW E si_X10_letAll 0 0 (QM E wrU) (f_X10_letAll_31 k2 k14 n v1 v2 v3 v4 d) 31 [(0, .ref 86), (1, .int v1), (2, .int v2), (3, .int v3), (4, .int v4)] [] d := by
  induction n with
  | zero => intros; exact r_none
  | succ n ih => intro v1 v2 v3 v4 d; exact w_X10_letAll_31B k2 hk2 k14 hk14 (f_X10_letAll_31 k2 k14 n) ih v1 v2 v3 v4 d
def f_X10_letAll_14B (k2 : Int32 → Int32 → DD → Option (Unit × DD)) (k14 : Int32 → Int32 → Int32 → DD → Option (Unit × DD)) (v1 : Int32) (v2 : Int32) (v3 : Int32) (d : DD) : Option (Unit × DD) :=
  if ixb (0 : Int32) (ln 88) then
  if v3 < ((2 : Int32) + ((2 : Int32) * (d.1 88 (0 : Int32).toNatClampNeg))) then
    f_X10_letAll_31 k2 k14 FU v1 v2 v3 (0 : Int32) d
    else
    k2 v1 (v2 + (1 : Int32)) d
  else none
def f_X10_letAll_14 (k2 : Int32 → Int32 → DD → Option (Unit × DD)) : Nat → Int32 → Int32 → Int32 → DD → Option (Unit × DD)
  | 0, _, _, _, _ => none
  | n + 1, v1, v2, v3, d => f_X10_letAll_14B k2 (f_X10_letAll_14 k2 n) v1 v2 v3 d
set_option maxRecDepth 100000 in
set_option maxHeartbeats 4000000 in
theorem w_X10_letAll_14B {E : XE} (k2 : Int32 → Int32 → DD → Option (Unit × DD)) (hk2 : ∀ (v1 : Int32) (v2 : Int32) (d : DD), AW E si_X10_letAll 0 0 (QM E wrU) (k2 v1 v2 d) 2 [(0, .ref 86), (1, .int v1), (2, .int v2)] [] d) (k14 : Int32 → Int32 → Int32 → DD → Option (Unit × DD)) (hk14 : ∀ (v1 : Int32) (v2 : Int32) (v3 : Int32) (d : DD), AW E si_X10_letAll 0 0 (QM E wrU) (k14 v1 v2 v3 d) 14 [(0, .ref 86), (1, .int v1), (2, .int v2), (3, .int v3)] [] d) (v1 : Int32) (v2 : Int32) (v3 : Int32) (d : DD) : AW E si_X10_letAll 0 0 (QM E wrU) (f_X10_letAll_14B k2 k14 v1 v2 v3 d) 14 [(0, .ref 86), (1, .int v1), (2, .int v2), (3, .int v3)] [] d := by
  unfold f_X10_letAll_14B
  refine r_iload_n_3 dX10_letAll_14 rfl ?_
  refine r_iconst dX10_letAll_15 ki_2 ?_
  refine r_iconst dX10_letAll_16 ki_2 ?_
  refine r_aload_n_0 dX10_letAll_17 rfl ?_
  refine r_getr (t := 88) (cc := 10) 6 rfl rfl uX10 (by decide) rfl fw_X10_41 rfl dX10_letAll_18 ?_
  refine r_iconst dX10_letAll_21 ki_0 ?_
  refine r_iaload rfl dX10_letAll_22 ?_
  refine r_imul dX10_letAll_23 ?_
  refine r_iadd dX10_letAll_24 ?_
  refine r_icmp_ge (tgt := 164) dX10_letAll_25 (by decide) ?_ ?_
  · refine r_iinc_2 dX10_letAll_164 ki_1 (by decide) rfl ?_
    refine r_goto (tgt := 2) dX10_letAll_167 (by decide) ?_
    refine r_sub [0, 1, 2] (lv' := [(0, .ref 86), (1, .int v1), (2, .int (v2 + (1 : Int32)))]) rfl ?_
    exact hk2 v1 (v2 + (1 : Int32)) d
  · refine r_iconst dX10_letAll_28 ki_0 ?_
    refine r_istore_w_x dX10_letAll_29 (by decide) rfl ?_
    refine r_sub [1, 2, 3, 4, 0] (lv' := [(0, .ref 86), (1, .int v1), (2, .int v2), (3, .int v3), (4, .int (0 : Int32))]) rfl ?_
    exact w_X10_letAll_31 k2 hk2 k14 hk14 FU v1 v2 v3 (0 : Int32) d
theorem w_X10_letAll_14 {E : XE} (k2 : Int32 → Int32 → DD → Option (Unit × DD)) (hk2 : ∀ (v1 : Int32) (v2 : Int32) (d : DD), AW E si_X10_letAll 0 0 (QM E wrU) (k2 v1 v2 d) 2 [(0, .ref 86), (1, .int v1), (2, .int v2)] [] d) (n : Nat) : ∀ (v1 : Int32) (v2 : Int32) (v3 : Int32) (d : DD), AW E si_X10_letAll 0 0 (QM E wrU) (f_X10_letAll_14 k2 n v1 v2 v3 d) 14 [(0, .ref 86), (1, .int v1), (2, .int v2), (3, .int v3)] [] d := by
  induction n with
  | zero => intros; exact r_none
  | succ n ih => intro v1 v2 v3 d; exact w_X10_letAll_14B k2 hk2 (f_X10_letAll_14 k2 n) ih v1 v2 v3 d
def f_X10_letAll_2B (k2 : Int32 → Int32 → DD → Option (Unit × DD)) (v1 : Int32) (v2 : Int32) (d : DD) : Option (Unit × DD) :=
  if ixb (1 : Int32) (ln 88) then
  if v2 < (d.1 88 (1 : Int32).toNatClampNeg) then
    f_X10_letAll_14 k2 FU v1 v2 (0 : Int32) d
    else
    some ((), d)
  else none
def f_X10_letAll_2 : Nat → Int32 → Int32 → DD → Option (Unit × DD)
  | 0, _, _, _ => none
  | n + 1, v1, v2, d => f_X10_letAll_2B (f_X10_letAll_2 n) v1 v2 d
set_option maxRecDepth 100000 in
set_option maxHeartbeats 4000000 in
theorem w_X10_letAll_2B {E : XE} (k2 : Int32 → Int32 → DD → Option (Unit × DD)) (hk2 : ∀ (v1 : Int32) (v2 : Int32) (d : DD), AW E si_X10_letAll 0 0 (QM E wrU) (k2 v1 v2 d) 2 [(0, .ref 86), (1, .int v1), (2, .int v2)] [] d) (v1 : Int32) (v2 : Int32) (d : DD) : AW E si_X10_letAll 0 0 (QM E wrU) (f_X10_letAll_2B k2 v1 v2 d) 2 [(0, .ref 86), (1, .int v1), (2, .int v2)] [] d := by
  unfold f_X10_letAll_2B
  refine r_iload_n_2 dX10_letAll_2 rfl ?_
  refine r_aload_n_0 dX10_letAll_3 rfl ?_
  refine r_getr (t := 88) (cc := 10) 6 rfl rfl uX10 (by decide) rfl fw_X10_41 rfl dX10_letAll_4 ?_
  refine r_iconst dX10_letAll_7 ki_1 ?_
  refine r_iaload rfl dX10_letAll_8 ?_
  refine r_icmp_ge (tgt := 170) dX10_letAll_9 (by decide) ?_ ?_
  · exact r_return dX10_letAll_170 rfl
  · refine r_iconst dX10_letAll_12 ki_0 ?_
    refine r_istore_n_x dX10_letAll_13 rfl (by decide) rfl ?_
    refine r_sub [1, 2, 3, 0] (lv' := [(0, .ref 86), (1, .int v1), (2, .int v2), (3, .int (0 : Int32))]) rfl ?_
    exact w_X10_letAll_14 k2 hk2 FU v1 v2 (0 : Int32) d
theorem w_X10_letAll_2 {E : XE} (n : Nat) : ∀ (v1 : Int32) (v2 : Int32) (d : DD), AW E si_X10_letAll 0 0 (QM E wrU) (f_X10_letAll_2 n v1 v2 d) 2 [(0, .ref 86), (1, .int v1), (2, .int v2)] [] d := by
  induction n with
  | zero => intros; exact r_none
  | succ n ih => intro v1 v2 d; exact w_X10_letAll_2B (f_X10_letAll_2 n) ih v1 v2 d
def f_X10_letAll (p1 : Int32) (d : DD) : Option (Unit × DD) :=
  f_X10_letAll_2 FU p1 (0 : Int32) d
set_option maxRecDepth 100000 in
set_option maxHeartbeats 4000000 in
theorem am_X10_letAll (p1 : Int32) (d : DD) : AM wrU mi_X10_letAll 2 51 [.ref 86, .int p1] d (f_X10_letAll p1 d) := by
  refine AM_intro (si := si_X10_letAll) (lv := [(0, .ref 86), (1, .int p1)]) rfl (by decide +kernel) rfl (Nat.le_of_ble_eq_true rfl) (fun E => ?_)
  unfold f_X10_letAll
  refine r_iconst dX10_letAll_0 ki_0 ?_
  refine r_istore_n_x dX10_letAll_1 rfl (by decide) rfl ?_
  refine r_sub [1, 2, 0] (lv' := [(0, .ref 86), (1, .int p1), (2, .int (0 : Int32))]) rfl ?_
  exact w_X10_letAll_2 FU p1 (0 : Int32) d
theorem cf_X10_letAll : CFv mi_X10_letAll 1 := ⟨iw_X10_letAll, vw_X10_letAll, nw_X10, cw_X10_letAll, by unfold plainF; decide +kernel⟩
abbrev si_X10_within : SI := (cX10_within, RX10, 3, none, 0, 0)
def f_X10_within_30B (k2 : Int32 → DD → Option (Unit × DD)) (k30 : Int32 → Int32 → DD → Option (Unit × DD)) (v1 : Int32) (v2 : Int32) (d : DD) : Option (Unit × DD) :=
  if ixb (1 : Int32) (ln 88) then
  if v2 < (d.1 88 (1 : Int32).toNatClampNeg) then
    if ixb v1 (ln 97) then
      if ixb v2 (ln 98) then
        if ixb ((((24 : Int32) * v2) + ((3 : Int32) * (d.1 98 v2.toNatClampNeg))) + v1) (ln 96) then
          if ixb v1 (ln 97) then
            bd (u2 d 97 v1.toNatClampNeg ((d.2 97 v1.toNatClampNeg) &&& (d.2 96 ((((24 : Int32) * v2) + ((3 : Int32) * (d.1 98 v2.toNatClampNeg))) + v1).toNatClampNeg))) fun d2 =>
            k30 v1 (v2 + (1 : Int32)) d2
            else none
          else none
        else none
      else none
    else
    k2 (v1 + (1 : Int32)) d
  else none
def f_X10_within_30 (k2 : Int32 → DD → Option (Unit × DD)) : Nat → Int32 → Int32 → DD → Option (Unit × DD)
  | 0, _, _, _ => none
  | n + 1, v1, v2, d => f_X10_within_30B k2 (f_X10_within_30 k2 n) v1 v2 d
set_option maxRecDepth 100000 in
set_option maxHeartbeats 4000000 in
theorem w_X10_within_30B {E : XE} (k2 : Int32 → DD → Option (Unit × DD)) (hk2 : ∀ (v1 : Int32) (d : DD), AW E si_X10_within 0 0 (QM E wrU) (k2 v1 d) 2 [(0, .ref 86), (1, .int v1)] [] d) (k30 : Int32 → Int32 → DD → Option (Unit × DD)) (hk30 : ∀ (v1 : Int32) (v2 : Int32) (d : DD), AW E si_X10_within 0 0 (QM E wrU) (k30 v1 v2 d) 30 [(0, .ref 86), (1, .int v1), (2, .int v2)] [] d) (v1 : Int32) (v2 : Int32) (d : DD) : AW E si_X10_within 0 0 (QM E wrU) (f_X10_within_30B k2 k30 v1 v2 d) 30 [(0, .ref 86), (1, .int v1), (2, .int v2)] [] d := by
  unfold f_X10_within_30B
  refine r_iload_n_2 dX10_within_30 rfl ?_
  refine r_aload_n_0 dX10_within_31 rfl ?_
  refine r_getr (t := 88) (cc := 10) 6 rfl rfl uX10 (by decide) rfl fw_X10_41 rfl dX10_within_32 ?_
  refine r_iconst dX10_within_35 ki_1 ?_
  refine r_iaload rfl dX10_within_36 ?_
  refine r_icmp_ge (tgt := 75) dX10_within_37 (by decide) ?_ ?_
  · refine r_iinc_1 dX10_within_75 ki_1 (by decide) rfl ?_
    refine r_goto (tgt := 2) dX10_within_78 (by decide) ?_
    refine r_sub [0, 1] (lv' := [(0, .ref 86), (1, .int (v1 + (1 : Int32)))]) rfl ?_
    exact hk2 (v1 + (1 : Int32)) d
  · refine r_aload_n_0 dX10_within_40 rfl ?_
    refine r_getr (t := 97) (cc := 10) 25 rfl rfl uX10 (by decide) rfl fw_X10_70 rfl dX10_within_41 ?_
    refine r_iload_n_1 dX10_within_44 rfl ?_
    refine r_dup2ia dX10_within_45 ?_
    refine r_laload rfl dX10_within_46 ?_
    refine r_aload_n_0 dX10_within_47 rfl ?_
    refine r_getr (t := 96) (cc := 10) 24 rfl rfl uX10 (by decide) rfl fw_X10_67 rfl dX10_within_48 ?_
    refine r_bipush dX10_within_51 kb_24 ?_
    refine r_iload_n_2 dX10_within_53 rfl ?_
    refine r_imul dX10_within_54 ?_
    refine r_iconst dX10_within_55 ki_3 ?_
    refine r_aload_n_0 dX10_within_56 rfl ?_
    refine r_getr (t := 98) (cc := 10) 26 rfl rfl uX10 (by decide) rfl fw_X10_73 rfl dX10_within_57 ?_
    refine r_iload_n_2 dX10_within_60 rfl ?_
    refine r_iaload rfl dX10_within_61 ?_
    refine r_imul dX10_within_62 ?_
    refine r_iadd dX10_within_63 ?_
    refine r_iload_n_1 dX10_within_64 rfl ?_
    refine r_iadd dX10_within_65 ?_
    refine r_laload rfl dX10_within_66 ?_
    refine r_land dX10_within_67 ?_
    refine r_lastore rfl dX10_within_68 ?_
    refine r_bd (fun d2 => ?_)
    refine r_iinc_2 dX10_within_69 ki_1 (by decide) rfl ?_
    refine r_goto (tgt := 30) dX10_within_72 (by decide) ?_
    exact hk30 v1 (v2 + (1 : Int32)) d2
theorem w_X10_within_30 {E : XE} (k2 : Int32 → DD → Option (Unit × DD)) (hk2 : ∀ (v1 : Int32) (d : DD), AW E si_X10_within 0 0 (QM E wrU) (k2 v1 d) 2 [(0, .ref 86), (1, .int v1)] [] d) (n : Nat) : ∀ (v1 : Int32) (v2 : Int32) (d : DD), AW E si_X10_within 0 0 (QM E wrU) (f_X10_within_30 k2 n v1 v2 d) 30 [(0, .ref 86), (1, .int v1), (2, .int v2)] [] d := by
  induction n with
  | zero => intros; exact r_none
  | succ n ih => intro v1 v2 d; exact w_X10_within_30B k2 hk2 (f_X10_within_30 k2 n) ih v1 v2 d
def f_X10_within_2B (k2 : Int32 → DD → Option (Unit × DD)) (v1 : Int32) (d : DD) : Option (Unit × DD) :=
  if ixb (0 : Int32) (ln 88) then
  if v1 < (d.1 88 (0 : Int32).toNatClampNeg) then
    if ixb v1 (ln 95) then
      if ixb v1 (ln 97) then
        bd (u2 d 97 v1.toNatClampNeg (((1 : Int64) <<< ((d.1 95 v1.toNatClampNeg).toInt64 &&& 63)) - (1 : Int64))) fun d1 =>
        f_X10_within_30 k2 FU v1 (0 : Int32) d1
        else none
      else none
    else
    some ((), d)
  else none
def f_X10_within_2 : Nat → Int32 → DD → Option (Unit × DD)
  | 0, _, _ => none
  | n + 1, v1, d => f_X10_within_2B (f_X10_within_2 n) v1 d
set_option maxRecDepth 100000 in
set_option maxHeartbeats 4000000 in
theorem w_X10_within_2B {E : XE} (k2 : Int32 → DD → Option (Unit × DD)) (hk2 : ∀ (v1 : Int32) (d : DD), AW E si_X10_within 0 0 (QM E wrU) (k2 v1 d) 2 [(0, .ref 86), (1, .int v1)] [] d) (v1 : Int32) (d : DD) : AW E si_X10_within 0 0 (QM E wrU) (f_X10_within_2B k2 v1 d) 2 [(0, .ref 86), (1, .int v1)] [] d := by
  unfold f_X10_within_2B
  refine r_iload_n_1 dX10_within_2 rfl ?_
  refine r_aload_n_0 dX10_within_3 rfl ?_
  refine r_getr (t := 88) (cc := 10) 6 rfl rfl uX10 (by decide) rfl fw_X10_41 rfl dX10_within_4 ?_
  refine r_iconst dX10_within_7 ki_0 ?_
  refine r_iaload rfl dX10_within_8 ?_
  refine r_icmp_ge (tgt := 81) dX10_within_9 (by decide) ?_ ?_
  · exact r_return dX10_within_81 rfl
  · refine r_aload_n_0 dX10_within_12 rfl ?_
    refine r_getr (t := 97) (cc := 10) 25 rfl rfl uX10 (by decide) rfl fw_X10_70 rfl dX10_within_13 ?_
    refine r_iload_n_1 dX10_within_16 rfl ?_
    refine r_lconst dX10_within_17 kl_1 ?_
    refine r_aload_n_0 dX10_within_18 rfl ?_
    refine r_getr (t := 95) (cc := 10) 22 rfl rfl uX10 (by decide) rfl fw_X10_64 rfl dX10_within_19 ?_
    refine r_iload_n_1 dX10_within_22 rfl ?_
    refine r_iaload rfl dX10_within_23 ?_
    refine r_lshl dX10_within_24 ?_
    refine r_lconst dX10_within_25 kl_1 ?_
    refine r_lsub dX10_within_26 ?_
    refine r_lastore rfl dX10_within_27 ?_
    refine r_bd (fun d1 => ?_)
    refine r_iconst dX10_within_28 ki_0 ?_
    refine r_istore_n_x dX10_within_29 rfl (by decide) rfl ?_
    refine r_sub [1, 2, 0] (lv' := [(0, .ref 86), (1, .int v1), (2, .int (0 : Int32))]) rfl ?_
    exact w_X10_within_30 k2 hk2 FU v1 (0 : Int32) d1
theorem w_X10_within_2 {E : XE} (n : Nat) : ∀ (v1 : Int32) (d : DD), AW E si_X10_within 0 0 (QM E wrU) (f_X10_within_2 n v1 d) 2 [(0, .ref 86), (1, .int v1)] [] d := by
  induction n with
  | zero => intros; exact r_none
  | succ n ih => intro v1 d; exact w_X10_within_2B (f_X10_within_2 n) ih v1 d
def f_X10_within (d : DD) : Option (Unit × DD) :=
  f_X10_within_2 FU (0 : Int32) d
set_option maxRecDepth 100000 in
set_option maxHeartbeats 4000000 in
theorem am_X10_within (d : DD) : AM wrU mi_X10_within 0 0 [.ref 86] d (f_X10_within d) := by
  refine AM_intro (si := si_X10_within) (lv := [(0, .ref 86)]) rfl (by decide +kernel) rfl (Nat.le_of_ble_eq_true rfl) (fun E => ?_)
  unfold f_X10_within
  refine r_iconst dX10_within_0 ki_0 ?_
  refine r_istore_n_x dX10_within_1 rfl (by decide) rfl ?_
  refine r_sub [1, 0] (lv' := [(0, .ref 86), (1, .int (0 : Int32))]) rfl ?_
  exact w_X10_within_2 FU (0 : Int32) d
theorem cf_X10_within : CFv mi_X10_within 0 := ⟨iw_X10_within, vw_X10_within, nw_X10, cw_X10_within, by unfold plainF; decide +kernel⟩
abbrev si_X10_firstWays : SI := (cX10_firstWays, RX10, 2, none, 1, 22)
def f_X10_firstWays_19B (k2 : Int32 → DD → Option (Unit × DD)) (k19 : Int32 → DD → Option (Unit × DD)) (v1 : Int32) (d : DD) : Option (Unit × DD) :=
  if ixb ((11 : Int32) + v1) (ln 88) then
  if ixb v1 (ln 98) then
    (f_X10_has (d.1 88 ((11 : Int32) + v1).toNatClampNeg) (d.1 98 v1.toNatClampNeg) d).bind fun q3 =>
      if q3.1 = 0 then
      if ixb v1 (ln 98) then
        if ixb v1 (ln 98) then
          bd (u1 q3.2 98 v1.toNatClampNeg ((q3.2.1 98 v1.toNatClampNeg) + (1 : Int32))) fun d4 =>
          k19 v1 d4
          else none
        else none
      else
      k2 (v1 + (1 : Int32)) q3.2
    else none
  else none
def f_X10_firstWays_19 (k2 : Int32 → DD → Option (Unit × DD)) : Nat → Int32 → DD → Option (Unit × DD)
  | 0, _, _ => none
  | n + 1, v1, d => f_X10_firstWays_19B k2 (f_X10_firstWays_19 k2 n) v1 d
set_option maxRecDepth 100000 in
set_option maxHeartbeats 4000000 in
theorem w_X10_firstWays_19B {E : XE} (k2 : Int32 → DD → Option (Unit × DD)) (hk2 : ∀ (v1 : Int32) (d : DD), AW E si_X10_firstWays 0 0 (QM E wrU) (k2 v1 d) 2 [(0, .ref 86), (1, .int v1)] [] d) (k19 : Int32 → DD → Option (Unit × DD)) (hk19 : ∀ (v1 : Int32) (d : DD), AW E si_X10_firstWays 0 0 (QM E wrU) (k19 v1 d) 19 [(0, .ref 86), (1, .int v1)] [] d) (v1 : Int32) (d : DD) : AW E si_X10_firstWays 0 0 (QM E wrU) (f_X10_firstWays_19B k2 k19 v1 d) 19 [(0, .ref 86), (1, .int v1)] [] d := by
  unfold f_X10_firstWays_19B
  refine r_aload_n_0 dX10_firstWays_19 rfl ?_
  refine r_getr (t := 88) (cc := 10) 6 rfl rfl uX10 (by decide) rfl fw_X10_41 rfl dX10_firstWays_20 ?_
  refine r_bipush dX10_firstWays_23 kb_11 ?_
  refine r_iload_n_1 dX10_firstWays_25 rfl ?_
  refine r_iadd dX10_firstWays_26 ?_
  refine r_iaload rfl dX10_firstWays_27 ?_
  refine r_aload_n_0 dX10_firstWays_28 rfl ?_
  refine r_getr (t := 98) (cc := 10) 26 rfl rfl uX10 (by decide) rfl fw_X10_73 rfl dX10_firstWays_29 ?_
  refine r_iload_n_1 dX10_firstWays_32 rfl ?_
  refine r_iaload rfl dX10_firstWays_33 ?_
  refine r_callSI [] (am_X10_has (d.1 88 ((11 : Int32) + v1).toNatClampNeg) (d.1 98 v1.toNatClampNeg) d) cf_X10_has mw_X10_213 (by decide) dX10_firstWays_34 rfl (Nat.le_of_ble_eq_true rfl) ⟨rfl, rfl⟩ (fun q3 => ?_)
  refine r_if_ne (tgt := 53) dX10_firstWays_37 (by decide) ?_ ?_
  · refine r_iinc_1 dX10_firstWays_53 ki_1 (by decide) rfl ?_
    refine r_goto (tgt := 2) dX10_firstWays_56 (by decide) ?_
    exact hk2 (v1 + (1 : Int32)) q3.2
  · refine r_aload_n_0 dX10_firstWays_40 rfl ?_
    refine r_getr (t := 98) (cc := 10) 26 rfl rfl uX10 (by decide) rfl fw_X10_73 rfl dX10_firstWays_41 ?_
    refine r_iload_n_1 dX10_firstWays_44 rfl ?_
    refine r_dup2ia dX10_firstWays_45 ?_
    refine r_iaload rfl dX10_firstWays_46 ?_
    refine r_iconst dX10_firstWays_47 ki_1 ?_
    refine r_iadd dX10_firstWays_48 ?_
    refine r_iastore rfl dX10_firstWays_49 ?_
    refine r_bd (fun d4 => ?_)
    refine r_goto (tgt := 19) dX10_firstWays_50 (by decide) ?_
    exact hk19 v1 d4
theorem w_X10_firstWays_19 {E : XE} (k2 : Int32 → DD → Option (Unit × DD)) (hk2 : ∀ (v1 : Int32) (d : DD), AW E si_X10_firstWays 0 0 (QM E wrU) (k2 v1 d) 2 [(0, .ref 86), (1, .int v1)] [] d) (n : Nat) : ∀ (v1 : Int32) (d : DD), AW E si_X10_firstWays 0 0 (QM E wrU) (f_X10_firstWays_19 k2 n v1 d) 19 [(0, .ref 86), (1, .int v1)] [] d := by
  induction n with
  | zero => intros; exact r_none
  | succ n ih => intro v1 d; exact w_X10_firstWays_19B k2 hk2 (f_X10_firstWays_19 k2 n) ih v1 d
def f_X10_firstWays_2B (k2 : Int32 → DD → Option (Unit × DD)) (v1 : Int32) (d : DD) : Option (Unit × DD) :=
  if ixb (1 : Int32) (ln 88) then
  if v1 < (d.1 88 (1 : Int32).toNatClampNeg) then
    if ixb v1 (ln 98) then
      bd (u1 d 98 v1.toNatClampNeg (0 : Int32)) fun d2 =>
      f_X10_firstWays_19 k2 FU v1 d2
      else none
    else
    (f_X10_within d).bind fun q1 =>
      some ((), q1.2)
  else none
def f_X10_firstWays_2 : Nat → Int32 → DD → Option (Unit × DD)
  | 0, _, _ => none
  | n + 1, v1, d => f_X10_firstWays_2B (f_X10_firstWays_2 n) v1 d
set_option maxRecDepth 100000 in
set_option maxHeartbeats 4000000 in
theorem w_X10_firstWays_2B {E : XE} (k2 : Int32 → DD → Option (Unit × DD)) (hk2 : ∀ (v1 : Int32) (d : DD), AW E si_X10_firstWays 0 0 (QM E wrU) (k2 v1 d) 2 [(0, .ref 86), (1, .int v1)] [] d) (v1 : Int32) (d : DD) : AW E si_X10_firstWays 0 0 (QM E wrU) (f_X10_firstWays_2B k2 v1 d) 2 [(0, .ref 86), (1, .int v1)] [] d := by
  unfold f_X10_firstWays_2B
  refine r_iload_n_1 dX10_firstWays_2 rfl ?_
  refine r_aload_n_0 dX10_firstWays_3 rfl ?_
  refine r_getr (t := 88) (cc := 10) 6 rfl rfl uX10 (by decide) rfl fw_X10_41 rfl dX10_firstWays_4 ?_
  refine r_iconst dX10_firstWays_7 ki_1 ?_
  refine r_iaload rfl dX10_firstWays_8 ?_
  refine r_icmp_ge (tgt := 59) dX10_firstWays_9 (by decide) ?_ ?_
  · refine r_aload_n_0 dX10_firstWays_59 rfl ?_
    refine r_callVU (cc := 10) [] (am_X10_within d) rfl rfl cf_X10_within mw_X10_264 (by decide) dX10_firstWays_60 rfl (Nat.le_of_ble_eq_true rfl) ⟨rfl, rfl⟩ (fun q1 => ?_)
    exact r_return dX10_firstWays_63 rfl
  · refine r_aload_n_0 dX10_firstWays_12 rfl ?_
    refine r_getr (t := 98) (cc := 10) 26 rfl rfl uX10 (by decide) rfl fw_X10_73 rfl dX10_firstWays_13 ?_
    refine r_iload_n_1 dX10_firstWays_16 rfl ?_
    refine r_iconst dX10_firstWays_17 ki_0 ?_
    refine r_iastore rfl dX10_firstWays_18 ?_
    refine r_bd (fun d2 => ?_)
    exact w_X10_firstWays_19 k2 hk2 FU v1 d2
theorem w_X10_firstWays_2 {E : XE} (n : Nat) : ∀ (v1 : Int32) (d : DD), AW E si_X10_firstWays 0 0 (QM E wrU) (f_X10_firstWays_2 n v1 d) 2 [(0, .ref 86), (1, .int v1)] [] d := by
  induction n with
  | zero => intros; exact r_none
  | succ n ih => intro v1 d; exact w_X10_firstWays_2B (f_X10_firstWays_2 n) ih v1 d
def f_X10_firstWays (d : DD) : Option (Unit × DD) :=
  f_X10_firstWays_2 FU (0 : Int32) d
set_option maxRecDepth 100000 in
set_option maxHeartbeats 4000000 in
theorem am_X10_firstWays (d : DD) : AM wrU mi_X10_firstWays 1 22 [.ref 86] d (f_X10_firstWays d) := by
  refine AM_intro (si := si_X10_firstWays) (lv := [(0, .ref 86)]) rfl (by decide +kernel) rfl (Nat.le_of_ble_eq_true rfl) (fun E => ?_)
  unfold f_X10_firstWays
  refine r_iconst dX10_firstWays_0 ki_0 ?_
  refine r_istore_n_x dX10_firstWays_1 rfl (by decide) rfl ?_
  refine r_sub [1, 0] (lv' := [(0, .ref 86), (1, .int (0 : Int32))]) rfl ?_
  exact w_X10_firstWays_2 FU (0 : Int32) d
theorem cf_X10_firstWays : CFv mi_X10_firstWays 0 := ⟨iw_X10_firstWays, vw_X10_firstWays, nw_X10, cw_X10_firstWays, by unfold plainF; decide +kernel⟩
abbrev si_X10_bits : SI := (cX10_bits, RX10, 4, (some .int), 0, 0)
def f_X10_bits (p0 : Int64) (d : DD) : Option (Int32 × DD) :=
  bd (p0 - ((lushr p0 (1 : Int32)) &&& (6148914691236517205 : Int64))) fun x1 =>
  bd ((x1 &&& (3689348814741910323 : Int64)) + ((lushr x1 (2 : Int32)) &&& (3689348814741910323 : Int64))) fun x2 =>
  bd ((x2 + (lushr x2 (4 : Int32))) &&& (1085102592571150095 : Int64)) fun x3 =>
  some ((lushr (x3 * (72340172838076673 : Int64)) (56 : Int32)).toInt32, d)
set_option maxRecDepth 100000 in
set_option maxHeartbeats 4000000 in
theorem am_X10_bits (p0 : Int64) (d : DD) : AM wrI mi_X10_bits 0 0 [.long p0] d (f_X10_bits p0 d) := by
  refine AM_intro (si := si_X10_bits) (lv := [(0, .long p0)]) rfl (by decide +kernel) rfl (Nat.le_of_ble_eq_true rfl) (fun E => ?_)
  unfold f_X10_bits
  refine r_lload_n_0 dX10_bits_0 rfl ?_
  refine r_lload_n_0 dX10_bits_1 rfl ?_
  refine r_iconst dX10_bits_2 ki_1 ?_
  refine r_lushr dX10_bits_3 ?_
  refine r_ldc2 dX10_bits_4 kw_X10_27 ?_
  refine r_land dX10_bits_7 ?_
  refine r_lsub dX10_bits_8 ?_
  refine r_bdJ (fun x1 => ?_)
  refine r_lstore_n_x dX10_bits_9 rfl (by decide) rfl ?_
  refine r_lload_n_0 dX10_bits_10 rfl ?_
  refine r_ldc2 dX10_bits_11 kw_X10_29 ?_
  refine r_land dX10_bits_14 ?_
  refine r_lload_n_0 dX10_bits_15 rfl ?_
  refine r_iconst dX10_bits_16 ki_2 ?_
  refine r_lushr dX10_bits_17 ?_
  refine r_ldc2 dX10_bits_18 kw_X10_29 ?_
  refine r_land dX10_bits_21 ?_
  refine r_ladd dX10_bits_22 ?_
  refine r_bdJ (fun x2 => ?_)
  refine r_lstore_n_0 dX10_bits_23 rfl (by decide) rfl ?_
  refine r_lload_n_0 dX10_bits_24 rfl ?_
  refine r_lload_n_0 dX10_bits_25 rfl ?_
  refine r_iconst dX10_bits_26 ki_4 ?_
  refine r_lushr dX10_bits_27 ?_
  refine r_ladd dX10_bits_28 ?_
  refine r_ldc2 dX10_bits_29 kw_X10_31 ?_
  refine r_land dX10_bits_32 ?_
  refine r_bdJ (fun x3 => ?_)
  refine r_lstore_n_0 dX10_bits_33 rfl (by decide) rfl ?_
  refine r_lload_n_0 dX10_bits_34 rfl ?_
  refine r_ldc2 dX10_bits_35 kw_X10_33 ?_
  refine r_lmul dX10_bits_38 ?_
  refine r_bipush dX10_bits_39 kb_56 ?_
  refine r_lushr dX10_bits_41 ?_
  refine r_l2i dX10_bits_42 ?_
  exact r_ireturn dX10_bits_43 rfl
theorem cf_X10_bits : CFs mi_X10_bits 1 := ⟨sw_X10_bits, nw_X10, cw_X10_bits, by unfold plainF; decide +kernel⟩
abbrev si_X10_worldsNow : SI := (cX10_worldsNow, RX10, 6, (some .long), 1, 23)
def f_X10_worldsNow_5B (k5 : Int32 → Int32 → Int64 → Int32 → DD → Option (Int64 × DD)) (v1 : Int32) (v2 : Int32) (v3 : Int64) (v5 : Int32) (d : DD) : Option (Int64 × DD) :=
  if ixb (0 : Int32) (ln 88) then
  if v5 < (d.1 88 (0 : Int32).toNatClampNeg) then
    if v5 = v1 then
      bd (v3 * (1 : Int64)) fun x1 =>
        k5 v1 v2 x1 (v5 + (1 : Int32)) d
      else
      if v5 = v2 then
        bd (v3 * (1 : Int64)) fun x4 =>
          k5 v1 v2 x4 (v5 + (1 : Int32)) d
        else
        if ixb v5 (ln 97) then
          (f_X10_bits (d.2 97 v5.toNatClampNeg) d).bind fun q2 =>
            bd (v3 * q2.1.toInt64) fun x3 =>
            k5 v1 v2 x3 (v5 + (1 : Int32)) q2.2
          else none
    else
    some (v3, d)
  else none
def f_X10_worldsNow_5 : Nat → Int32 → Int32 → Int64 → Int32 → DD → Option (Int64 × DD)
  | 0, _, _, _, _, _ => none
  | n + 1, v1, v2, v3, v5, d => f_X10_worldsNow_5B (f_X10_worldsNow_5 n) v1 v2 v3 v5 d
set_option maxRecDepth 100000 in
set_option maxHeartbeats 4000000 in
theorem w_X10_worldsNow_5B {E : XE} (k5 : Int32 → Int32 → Int64 → Int32 → DD → Option (Int64 × DD)) (hk5 : ∀ (v1 : Int32) (v2 : Int32) (v3 : Int64) (v5 : Int32) (d : DD), AW E si_X10_worldsNow 0 0 (QM E wrL) (k5 v1 v2 v3 v5 d) 5 [(0, .ref 86), (1, .int v1), (2, .int v2), (3, .long v3), (5, .int v5)] [] d) (v1 : Int32) (v2 : Int32) (v3 : Int64) (v5 : Int32) (d : DD) : AW E si_X10_worldsNow 0 0 (QM E wrL) (f_X10_worldsNow_5B k5 v1 v2 v3 v5 d) 5 [(0, .ref 86), (1, .int v1), (2, .int v2), (3, .long v3), (5, .int v5)] [] d := by
  unfold f_X10_worldsNow_5B
  refine r_iload_w_4 dX10_worldsNow_5 ?_
  refine r_aload_n_0 dX10_worldsNow_7 rfl ?_
  refine r_getr (t := 88) (cc := 10) 6 rfl rfl uX10 (by decide) rfl fw_X10_41 rfl dX10_worldsNow_8 ?_
  refine r_iconst dX10_worldsNow_11 ki_0 ?_
  refine r_iaload rfl dX10_worldsNow_12 ?_
  refine r_icmp_ge (tgt := 52) dX10_worldsNow_13 (by decide) ?_ ?_
  · refine r_lload_n_3 dX10_worldsNow_52 rfl ?_
    exact r_lreturn dX10_worldsNow_53 rfl
  · refine r_lload_n_3 dX10_worldsNow_16 rfl ?_
    refine r_iload_w_4 dX10_worldsNow_17 ?_
    refine r_iload_n_1 dX10_worldsNow_19 rfl ?_
    refine r_icmp_eq (tgt := 29) dX10_worldsNow_20 (by decide) ?_ ?_
    · refine r_lconst dX10_worldsNow_29 kl_1 ?_
      refine r_goto (tgt := 44) dX10_worldsNow_30 (by decide) ?_
      refine r_lmul dX10_worldsNow_44 ?_
      refine r_bdJ (fun x1 => ?_)
      refine r_lstore_n_3 dX10_worldsNow_45 rfl (by decide) rfl ?_
      refine r_iinc_4 dX10_worldsNow_46 ki_1 (by decide) rfl ?_
      refine r_goto (tgt := 5) dX10_worldsNow_49 (by decide) ?_
      exact hk5 v1 v2 x1 (v5 + (1 : Int32)) d
    · refine r_iload_w_4 dX10_worldsNow_23 ?_
      refine r_iload_n_2 dX10_worldsNow_25 rfl ?_
      refine r_icmp_ne (tgt := 33) dX10_worldsNow_26 (by decide) ?_ ?_
      · refine r_aload_n_0 dX10_worldsNow_33 rfl ?_
        refine r_getr (t := 97) (cc := 10) 25 rfl rfl uX10 (by decide) rfl fw_X10_70 rfl dX10_worldsNow_34 ?_
        refine r_iload_w_4 dX10_worldsNow_37 ?_
        refine r_laload rfl dX10_worldsNow_39 ?_
        refine r_callSI [.long v3] (am_X10_bits (d.2 97 v5.toNatClampNeg) d) cf_X10_bits mw_X10_266 (by decide) dX10_worldsNow_40 rfl (Nat.le_of_ble_eq_true rfl) ⟨rfl, rfl⟩ (fun q2 => ?_)
        refine r_i2l dX10_worldsNow_43 ?_
        refine r_lmul dX10_worldsNow_44 ?_
        refine r_bdJ (fun x3 => ?_)
        refine r_lstore_n_3 dX10_worldsNow_45 rfl (by decide) rfl ?_
        refine r_iinc_4 dX10_worldsNow_46 ki_1 (by decide) rfl ?_
        refine r_goto (tgt := 5) dX10_worldsNow_49 (by decide) ?_
        exact hk5 v1 v2 x3 (v5 + (1 : Int32)) q2.2
      · refine r_lconst dX10_worldsNow_29 kl_1 ?_
        refine r_goto (tgt := 44) dX10_worldsNow_30 (by decide) ?_
        refine r_lmul dX10_worldsNow_44 ?_
        refine r_bdJ (fun x4 => ?_)
        refine r_lstore_n_3 dX10_worldsNow_45 rfl (by decide) rfl ?_
        refine r_iinc_4 dX10_worldsNow_46 ki_1 (by decide) rfl ?_
        refine r_goto (tgt := 5) dX10_worldsNow_49 (by decide) ?_
        exact hk5 v1 v2 x4 (v5 + (1 : Int32)) d
theorem w_X10_worldsNow_5 {E : XE} (n : Nat) : ∀ (v1 : Int32) (v2 : Int32) (v3 : Int64) (v5 : Int32) (d : DD), AW E si_X10_worldsNow 0 0 (QM E wrL) (f_X10_worldsNow_5 n v1 v2 v3 v5 d) 5 [(0, .ref 86), (1, .int v1), (2, .int v2), (3, .long v3), (5, .int v5)] [] d := by
  induction n with
  | zero => intros; exact r_none
  | succ n ih => intro v1 v2 v3 v5 d; exact w_X10_worldsNow_5B (f_X10_worldsNow_5 n) ih v1 v2 v3 v5 d
def f_X10_worldsNow (p1 : Int32) (p2 : Int32) (d : DD) : Option (Int64 × DD) :=
  f_X10_worldsNow_5 FU p1 p2 (1 : Int64) (0 : Int32) d
set_option maxRecDepth 100000 in
set_option maxHeartbeats 4000000 in
theorem am_X10_worldsNow (p1 : Int32) (p2 : Int32) (d : DD) : AM wrL mi_X10_worldsNow 1 23 [.ref 86, .int p1, .int p2] d (f_X10_worldsNow p1 p2 d) := by
  refine AM_intro (si := si_X10_worldsNow) (lv := [(0, .ref 86), (1, .int p1), (2, .int p2)]) rfl (by decide +kernel) rfl (Nat.le_of_ble_eq_true rfl) (fun E => ?_)
  unfold f_X10_worldsNow
  refine r_lconst dX10_worldsNow_0 kl_1 ?_
  refine r_lstore_n_x dX10_worldsNow_1 rfl (by decide) rfl ?_
  refine r_iconst dX10_worldsNow_2 ki_0 ?_
  refine r_istore_w_x dX10_worldsNow_3 (by decide) rfl ?_
  refine r_sub [2, 3, 4, 1, 0] (lv' := [(0, .ref 86), (1, .int p1), (2, .int p2), (3, .long (1 : Int64)), (5, .int (0 : Int32))]) rfl ?_
  exact w_X10_worldsNow_5 FU p1 p2 (1 : Int64) (0 : Int32) d
theorem cf_X10_worldsNow : CFv mi_X10_worldsNow 2 := ⟨iw_X10_worldsNow, vw_X10_worldsNow, nw_X10, cw_X10_worldsNow, by unfold plainF; decide +kernel⟩
abbrev si_X10_nextWays : SI := (cX10_nextWays, RX10, 3, (some .boolean), 1, 22)
def f_X10_nextWays_101B (k20 : Int32 → Int32 → DD → Option (Int32 × DD)) (k101 : Int32 → Int32 → DD → Option (Int32 × DD)) (v1 : Int32) (v2 : Int32) (d : DD) : Option (Int32 × DD) :=
  if ixb ((11 : Int32) + v2) (ln 88) then
  if ixb v2 (ln 98) then
    (f_X10_has (d.1 88 ((11 : Int32) + v2).toNatClampNeg) (d.1 98 v2.toNatClampNeg) d).bind fun q5 =>
      if q5.1 = 0 then
      if ixb v2 (ln 98) then
        if ixb v2 (ln 98) then
          bd (u1 q5.2 98 v2.toNatClampNeg ((q5.2.1 98 v2.toNatClampNeg) + (1 : Int32))) fun d6 =>
          k101 v1 v2 d6
          else none
        else none
      else
      k20 v1 (v2 + (-1 : Int32)) q5.2
    else none
  else none
def f_X10_nextWays_101 (k20 : Int32 → Int32 → DD → Option (Int32 × DD)) : Nat → Int32 → Int32 → DD → Option (Int32 × DD)
  | 0, _, _, _ => none
  | n + 1, v1, v2, d => f_X10_nextWays_101B k20 (f_X10_nextWays_101 k20 n) v1 v2 d
set_option maxRecDepth 100000 in
set_option maxHeartbeats 4000000 in
theorem w_X10_nextWays_101B {E : XE} (k20 : Int32 → Int32 → DD → Option (Int32 × DD)) (hk20 : ∀ (v1 : Int32) (v2 : Int32) (d : DD), AW E si_X10_nextWays 0 0 (QM E wrI) (k20 v1 v2 d) 20 [(0, .ref 86), (1, .int v1), (2, .int v2)] [] d) (k101 : Int32 → Int32 → DD → Option (Int32 × DD)) (hk101 : ∀ (v1 : Int32) (v2 : Int32) (d : DD), AW E si_X10_nextWays 0 0 (QM E wrI) (k101 v1 v2 d) 101 [(0, .ref 86), (1, .int v1), (2, .int v2)] [] d) (v1 : Int32) (v2 : Int32) (d : DD) : AW E si_X10_nextWays 0 0 (QM E wrI) (f_X10_nextWays_101B k20 k101 v1 v2 d) 101 [(0, .ref 86), (1, .int v1), (2, .int v2)] [] d := by
  unfold f_X10_nextWays_101B
  refine r_aload_n_0 dX10_nextWays_101 rfl ?_
  refine r_getr (t := 88) (cc := 10) 6 rfl rfl uX10 (by decide) rfl fw_X10_41 rfl dX10_nextWays_102 ?_
  refine r_bipush dX10_nextWays_105 kb_11 ?_
  refine r_iload_n_2 dX10_nextWays_107 rfl ?_
  refine r_iadd dX10_nextWays_108 ?_
  refine r_iaload rfl dX10_nextWays_109 ?_
  refine r_aload_n_0 dX10_nextWays_110 rfl ?_
  refine r_getr (t := 98) (cc := 10) 26 rfl rfl uX10 (by decide) rfl fw_X10_73 rfl dX10_nextWays_111 ?_
  refine r_iload_n_2 dX10_nextWays_114 rfl ?_
  refine r_iaload rfl dX10_nextWays_115 ?_
  refine r_callSI [] (am_X10_has (d.1 88 ((11 : Int32) + v2).toNatClampNeg) (d.1 98 v2.toNatClampNeg) d) cf_X10_has mw_X10_213 (by decide) dX10_nextWays_116 rfl (Nat.le_of_ble_eq_true rfl) ⟨rfl, rfl⟩ (fun q5 => ?_)
  refine r_if_ne (tgt := 135) dX10_nextWays_119 (by decide) ?_ ?_
  · refine r_iinc_2 dX10_nextWays_135 ki_m1 (by decide) rfl ?_
    refine r_goto (tgt := 20) dX10_nextWays_138 (by decide) ?_
    exact hk20 v1 (v2 + (-1 : Int32)) q5.2
  · refine r_aload_n_0 dX10_nextWays_122 rfl ?_
    refine r_getr (t := 98) (cc := 10) 26 rfl rfl uX10 (by decide) rfl fw_X10_73 rfl dX10_nextWays_123 ?_
    refine r_iload_n_2 dX10_nextWays_126 rfl ?_
    refine r_dup2ia dX10_nextWays_127 ?_
    refine r_iaload rfl dX10_nextWays_128 ?_
    refine r_iconst dX10_nextWays_129 ki_1 ?_
    refine r_iadd dX10_nextWays_130 ?_
    refine r_iastore rfl dX10_nextWays_131 ?_
    refine r_bd (fun d6 => ?_)
    refine r_goto (tgt := 101) dX10_nextWays_132 (by decide) ?_
    exact hk101 v1 v2 d6
theorem w_X10_nextWays_101 {E : XE} (k20 : Int32 → Int32 → DD → Option (Int32 × DD)) (hk20 : ∀ (v1 : Int32) (v2 : Int32) (d : DD), AW E si_X10_nextWays 0 0 (QM E wrI) (k20 v1 v2 d) 20 [(0, .ref 86), (1, .int v1), (2, .int v2)] [] d) (n : Nat) : ∀ (v1 : Int32) (v2 : Int32) (d : DD), AW E si_X10_nextWays 0 0 (QM E wrI) (f_X10_nextWays_101 k20 n v1 v2 d) 101 [(0, .ref 86), (1, .int v1), (2, .int v2)] [] d := by
  induction n with
  | zero => intros; exact r_none
  | succ n ih => intro v1 v2 d; exact w_X10_nextWays_101B k20 hk20 (f_X10_nextWays_101 k20 n) ih v1 v2 d
def f_X10_nextWays_78 (k20 : Int32 → Int32 → DD → Option (Int32 × DD)) (v1 : Int32) (v2 : Int32) (d : DD) : Option (Int32 × DD) :=
  if ixb v2 (ln 98) then
  if (d.1 98 v2.toNatClampNeg) < v1 then
    (f_X10_within d).bind fun q7 =>
      some ((1 : Int32), q7.2)
    else
    if ixb v2 (ln 98) then
      bd (u1 d 98 v2.toNatClampNeg (0 : Int32)) fun d4 =>
      f_X10_nextWays_101 k20 FU v1 v2 d4
      else none
  else none
set_option maxRecDepth 100000 in
set_option maxHeartbeats 4000000 in
theorem w_X10_nextWays_78 {E : XE} (k20 : Int32 → Int32 → DD → Option (Int32 × DD)) (hk20 : ∀ (v1 : Int32) (v2 : Int32) (d : DD), AW E si_X10_nextWays 0 0 (QM E wrI) (k20 v1 v2 d) 20 [(0, .ref 86), (1, .int v1), (2, .int v2)] [] d) (v1 : Int32) (v2 : Int32) (d : DD) : AW E si_X10_nextWays 0 0 (QM E wrI) (f_X10_nextWays_78 k20 v1 v2 d) 78 [(0, .ref 86), (1, .int v1), (2, .int v2)] [] d := by
  unfold f_X10_nextWays_78
  refine r_aload_n_0 dX10_nextWays_78 rfl ?_
  refine r_getr (t := 98) (cc := 10) 26 rfl rfl uX10 (by decide) rfl fw_X10_73 rfl dX10_nextWays_79 ?_
  refine r_iload_n_2 dX10_nextWays_82 rfl ?_
  refine r_iaload rfl dX10_nextWays_83 ?_
  refine r_iload_n_1 dX10_nextWays_84 rfl ?_
  refine r_icmp_ge (tgt := 94) dX10_nextWays_85 (by decide) ?_ ?_
  · refine r_aload_n_0 dX10_nextWays_94 rfl ?_
    refine r_getr (t := 98) (cc := 10) 26 rfl rfl uX10 (by decide) rfl fw_X10_73 rfl dX10_nextWays_95 ?_
    refine r_iload_n_2 dX10_nextWays_98 rfl ?_
    refine r_iconst dX10_nextWays_99 ki_0 ?_
    refine r_iastore rfl dX10_nextWays_100 ?_
    refine r_bd (fun d4 => ?_)
    exact w_X10_nextWays_101 k20 hk20 FU v1 v2 d4
  · refine r_aload_n_0 dX10_nextWays_88 rfl ?_
    refine r_callVU (cc := 10) [] (am_X10_within d) rfl rfl cf_X10_within mw_X10_264 (by decide) dX10_nextWays_89 rfl (Nat.le_of_ble_eq_true rfl) ⟨rfl, rfl⟩ (fun q7 => ?_)
    refine r_iconst dX10_nextWays_92 ki_1 ?_
    exact r_zreturn dX10_nextWays_93 rfl rfl
def f_X10_nextWays_34B (k20 : Int32 → Int32 → DD → Option (Int32 × DD)) (k34 : Int32 → Int32 → DD → Option (Int32 × DD)) (v1 : Int32) (v2 : Int32) (d : DD) : Option (Int32 × DD) :=
  if ixb v2 (ln 98) then
  if (d.1 98 v2.toNatClampNeg) < v1 then
    if ixb ((11 : Int32) + v2) (ln 88) then
      if ixb v2 (ln 98) then
        (f_X10_has (d.1 88 ((11 : Int32) + v2).toNatClampNeg) (d.1 98 v2.toNatClampNeg) d).bind fun q8 =>
          if q8.1 = 0 then
          if ixb v2 (ln 98) then
            if ixb v2 (ln 98) then
              bd (u1 q8.2 98 v2.toNatClampNeg ((q8.2.1 98 v2.toNatClampNeg) + (1 : Int32))) fun d9 =>
              k34 v1 v2 d9
              else none
            else none
          else
          f_X10_nextWays_78 k20 v1 v2 q8.2
        else none
      else none
    else
    f_X10_nextWays_78 k20 v1 v2 d
  else none
def f_X10_nextWays_34 (k20 : Int32 → Int32 → DD → Option (Int32 × DD)) : Nat → Int32 → Int32 → DD → Option (Int32 × DD)
  | 0, _, _, _ => none
  | n + 1, v1, v2, d => f_X10_nextWays_34B k20 (f_X10_nextWays_34 k20 n) v1 v2 d
set_option maxRecDepth 100000 in
set_option maxHeartbeats 4000000 in
theorem w_X10_nextWays_34B {E : XE} (k20 : Int32 → Int32 → DD → Option (Int32 × DD)) (hk20 : ∀ (v1 : Int32) (v2 : Int32) (d : DD), AW E si_X10_nextWays 0 0 (QM E wrI) (k20 v1 v2 d) 20 [(0, .ref 86), (1, .int v1), (2, .int v2)] [] d) (k34 : Int32 → Int32 → DD → Option (Int32 × DD)) (hk34 : ∀ (v1 : Int32) (v2 : Int32) (d : DD), AW E si_X10_nextWays 0 0 (QM E wrI) (k34 v1 v2 d) 34 [(0, .ref 86), (1, .int v1), (2, .int v2)] [] d) (v1 : Int32) (v2 : Int32) (d : DD) : AW E si_X10_nextWays 0 0 (QM E wrI) (f_X10_nextWays_34B k20 k34 v1 v2 d) 34 [(0, .ref 86), (1, .int v1), (2, .int v2)] [] d := by
  unfold f_X10_nextWays_34B
  refine r_aload_n_0 dX10_nextWays_34 rfl ?_
  refine r_getr (t := 98) (cc := 10) 26 rfl rfl uX10 (by decide) rfl fw_X10_73 rfl dX10_nextWays_35 ?_
  refine r_iload_n_2 dX10_nextWays_38 rfl ?_
  refine r_iaload rfl dX10_nextWays_39 ?_
  refine r_iload_n_1 dX10_nextWays_40 rfl ?_
  refine r_icmp_ge (tgt := 78) dX10_nextWays_41 (by decide) ?_ ?_
  · exact w_X10_nextWays_78 k20 hk20 v1 v2 d
  · refine r_aload_n_0 dX10_nextWays_44 rfl ?_
    refine r_getr (t := 88) (cc := 10) 6 rfl rfl uX10 (by decide) rfl fw_X10_41 rfl dX10_nextWays_45 ?_
    refine r_bipush dX10_nextWays_48 kb_11 ?_
    refine r_iload_n_2 dX10_nextWays_50 rfl ?_
    refine r_iadd dX10_nextWays_51 ?_
    refine r_iaload rfl dX10_nextWays_52 ?_
    refine r_aload_n_0 dX10_nextWays_53 rfl ?_
    refine r_getr (t := 98) (cc := 10) 26 rfl rfl uX10 (by decide) rfl fw_X10_73 rfl dX10_nextWays_54 ?_
    refine r_iload_n_2 dX10_nextWays_57 rfl ?_
    refine r_iaload rfl dX10_nextWays_58 ?_
    refine r_callSI [] (am_X10_has (d.1 88 ((11 : Int32) + v2).toNatClampNeg) (d.1 98 v2.toNatClampNeg) d) cf_X10_has mw_X10_213 (by decide) dX10_nextWays_59 rfl (Nat.le_of_ble_eq_true rfl) ⟨rfl, rfl⟩ (fun q8 => ?_)
    refine r_if_ne (tgt := 78) dX10_nextWays_62 (by decide) ?_ ?_
    · exact w_X10_nextWays_78 k20 hk20 v1 v2 q8.2
    · refine r_aload_n_0 dX10_nextWays_65 rfl ?_
      refine r_getr (t := 98) (cc := 10) 26 rfl rfl uX10 (by decide) rfl fw_X10_73 rfl dX10_nextWays_66 ?_
      refine r_iload_n_2 dX10_nextWays_69 rfl ?_
      refine r_dup2ia dX10_nextWays_70 ?_
      refine r_iaload rfl dX10_nextWays_71 ?_
      refine r_iconst dX10_nextWays_72 ki_1 ?_
      refine r_iadd dX10_nextWays_73 ?_
      refine r_iastore rfl dX10_nextWays_74 ?_
      refine r_bd (fun d9 => ?_)
      refine r_goto (tgt := 34) dX10_nextWays_75 (by decide) ?_
      exact hk34 v1 v2 d9
theorem w_X10_nextWays_34 {E : XE} (k20 : Int32 → Int32 → DD → Option (Int32 × DD)) (hk20 : ∀ (v1 : Int32) (v2 : Int32) (d : DD), AW E si_X10_nextWays 0 0 (QM E wrI) (k20 v1 v2 d) 20 [(0, .ref 86), (1, .int v1), (2, .int v2)] [] d) (n : Nat) : ∀ (v1 : Int32) (v2 : Int32) (d : DD), AW E si_X10_nextWays 0 0 (QM E wrI) (f_X10_nextWays_34 k20 n v1 v2 d) 34 [(0, .ref 86), (1, .int v1), (2, .int v2)] [] d := by
  induction n with
  | zero => intros; exact r_none
  | succ n ih => intro v1 v2 d; exact w_X10_nextWays_34B k20 hk20 (f_X10_nextWays_34 k20 n) ih v1 v2 d
def f_X10_nextWays_20B (k20 : Int32 → Int32 → DD → Option (Int32 × DD)) (v1 : Int32) (v2 : Int32) (d : DD) : Option (Int32 × DD) :=
  if v2 < 0 then
  some ((0 : Int32), d)
  else
  if ixb v2 (ln 98) then
    if ixb v2 (ln 98) then
      bd (u1 d 98 v2.toNatClampNeg ((d.1 98 v2.toNatClampNeg) + (1 : Int32))) fun d3 =>
      f_X10_nextWays_34 k20 FU v1 v2 d3
      else none
    else none
def f_X10_nextWays_20 : Nat → Int32 → Int32 → DD → Option (Int32 × DD)
  | 0, _, _, _ => none
  | n + 1, v1, v2, d => f_X10_nextWays_20B (f_X10_nextWays_20 n) v1 v2 d
set_option maxRecDepth 100000 in
set_option maxHeartbeats 4000000 in
theorem w_X10_nextWays_20B {E : XE} (k20 : Int32 → Int32 → DD → Option (Int32 × DD)) (hk20 : ∀ (v1 : Int32) (v2 : Int32) (d : DD), AW E si_X10_nextWays 0 0 (QM E wrI) (k20 v1 v2 d) 20 [(0, .ref 86), (1, .int v1), (2, .int v2)] [] d) (v1 : Int32) (v2 : Int32) (d : DD) : AW E si_X10_nextWays 0 0 (QM E wrI) (f_X10_nextWays_20B k20 v1 v2 d) 20 [(0, .ref 86), (1, .int v1), (2, .int v2)] [] d := by
  unfold f_X10_nextWays_20B
  refine r_iload_n_2 dX10_nextWays_20 rfl ?_
  refine r_if_lt (tgt := 141) dX10_nextWays_21 (by decide) ?_ ?_
  · refine r_iconst dX10_nextWays_141 ki_0 ?_
    exact r_zreturn dX10_nextWays_142 rfl rfl
  · refine r_aload_n_0 dX10_nextWays_24 rfl ?_
    refine r_getr (t := 98) (cc := 10) 26 rfl rfl uX10 (by decide) rfl fw_X10_73 rfl dX10_nextWays_25 ?_
    refine r_iload_n_2 dX10_nextWays_28 rfl ?_
    refine r_dup2ia dX10_nextWays_29 ?_
    refine r_iaload rfl dX10_nextWays_30 ?_
    refine r_iconst dX10_nextWays_31 ki_1 ?_
    refine r_iadd dX10_nextWays_32 ?_
    refine r_iastore rfl dX10_nextWays_33 ?_
    refine r_bd (fun d3 => ?_)
    exact w_X10_nextWays_34 k20 hk20 FU v1 v2 d3
theorem w_X10_nextWays_20 {E : XE} (n : Nat) : ∀ (v1 : Int32) (v2 : Int32) (d : DD), AW E si_X10_nextWays 0 0 (QM E wrI) (f_X10_nextWays_20 n v1 v2 d) 20 [(0, .ref 86), (1, .int v1), (2, .int v2)] [] d := by
  induction n with
  | zero => intros; exact r_none
  | succ n ih => intro v1 v2 d; exact w_X10_nextWays_20B (f_X10_nextWays_20 n) ih v1 v2 d
def f_X10_nextWays (d : DD) : Option (Int32 × DD) :=
  if ixb (0 : Int32) (ln 88) then
  bd ((2 : Int32) + ((2 : Int32) * (d.1 88 (0 : Int32).toNatClampNeg))) fun x1 =>
    if ixb (1 : Int32) (ln 88) then
    bd ((d.1 88 (1 : Int32).toNatClampNeg) - (1 : Int32)) fun x2 =>
      f_X10_nextWays_20 FU x1 x2 d
    else none
  else none
set_option maxRecDepth 100000 in
set_option maxHeartbeats 4000000 in
theorem am_X10_nextWays (d : DD) : AM wrI mi_X10_nextWays 1 22 [.ref 86] d (f_X10_nextWays d) := by
  refine AM_intro (si := si_X10_nextWays) (lv := [(0, .ref 86)]) rfl (by decide +kernel) rfl (Nat.le_of_ble_eq_true rfl) (fun E => ?_)
  unfold f_X10_nextWays
  refine r_iconst dX10_nextWays_0 ki_2 ?_
  refine r_iconst dX10_nextWays_1 ki_2 ?_
  refine r_aload_n_0 dX10_nextWays_2 rfl ?_
  refine r_getr (t := 88) (cc := 10) 6 rfl rfl uX10 (by decide) rfl fw_X10_41 rfl dX10_nextWays_3 ?_
  refine r_iconst dX10_nextWays_6 ki_0 ?_
  refine r_iaload rfl dX10_nextWays_7 ?_
  refine r_imul dX10_nextWays_8 ?_
  refine r_iadd dX10_nextWays_9 ?_
  refine r_bdI (fun x1 => ?_)
  refine r_istore_n_x dX10_nextWays_10 rfl (by decide) rfl ?_
  refine r_aload_n_1 dX10_nextWays_11 rfl ?_
  refine r_getr (t := 88) (cc := 10) 6 rfl rfl uX10 (by decide) rfl fw_X10_41 rfl dX10_nextWays_12 ?_
  refine r_iconst dX10_nextWays_15 ki_1 ?_
  refine r_iaload rfl dX10_nextWays_16 ?_
  refine r_iconst dX10_nextWays_17 ki_1 ?_
  refine r_isub dX10_nextWays_18 ?_
  refine r_bdI (fun x2 => ?_)
  refine r_istore_n_x dX10_nextWays_19 rfl (by decide) rfl ?_
  refine r_sub [2, 1, 0] (lv' := [(0, .ref 86), (1, .int x1), (2, .int x2)]) rfl ?_
  exact w_X10_nextWays_20 FU x1 x2 d
theorem cf_X10_nextWays : CFv mi_X10_nextWays 0 := ⟨iw_X10_nextWays, vw_X10_nextWays, nw_X10, cw_X10_nextWays, by unfold plainF; decide +kernel⟩
abbrev si_X10_worldsBy : SI := (cX10_worldsBy, RX10, 4, (some .long), 3, 78)
def f_X10_worldsBy_11B (k11 : Int64 → DD → Option (Int64 × DD)) (v2 : Int64) (d : DD) : Option (Int64 × DD) :=
  (f_X10_worldsNow (-1 : Int32) (-1 : Int32) d).bind fun q3 =>
  bd (v2 + q3.1) fun x4 =>
  (f_X10_nextWays q3.2).bind fun q5 =>
  if q5.1 = 0 then
  some (x4, q5.2)
  else
  k11 x4 q5.2
def f_X10_worldsBy_11 : Nat → Int64 → DD → Option (Int64 × DD)
  | 0, _, _ => none
  | n + 1, v2, d => f_X10_worldsBy_11B (f_X10_worldsBy_11 n) v2 d
set_option maxRecDepth 100000 in
set_option maxHeartbeats 4000000 in
theorem w_X10_worldsBy_11B {E : XE} (k11 : Int64 → DD → Option (Int64 × DD)) (hk11 : ∀ (v2 : Int64) (d : DD), AW E si_X10_worldsBy 0 0 (QM E wrL) (k11 v2 d) 11 [(0, .ref 86), (2, .long v2)] [] d) (v2 : Int64) (d : DD) : AW E si_X10_worldsBy 0 0 (QM E wrL) (f_X10_worldsBy_11B k11 v2 d) 11 [(0, .ref 86), (2, .long v2)] [] d := by
  unfold f_X10_worldsBy_11B
  refine r_lload_n_1 dX10_worldsBy_11 rfl ?_
  refine r_aload_n_0 dX10_worldsBy_12 rfl ?_
  refine r_iconst dX10_worldsBy_13 ki_m1 ?_
  refine r_iconst dX10_worldsBy_14 ki_m1 ?_
  refine r_callVL (cc := 10) [.long v2] (am_X10_worldsNow (-1 : Int32) (-1 : Int32) d) rfl rfl cf_X10_worldsNow mw_X10_276 (by decide) dX10_worldsBy_15 rfl (Nat.le_of_ble_eq_true rfl) ⟨rfl, rfl⟩ (fun q3 => ?_)
  refine r_ladd dX10_worldsBy_18 ?_
  refine r_bdJ (fun x4 => ?_)
  refine r_lstore_n_1 dX10_worldsBy_19 rfl (by decide) rfl ?_
  refine r_aload_n_0 dX10_worldsBy_20 rfl ?_
  refine r_callVI (cc := 10) [] (am_X10_nextWays q3.2) rfl rfl cf_X10_nextWays mw_X10_280 (by decide) dX10_worldsBy_21 rfl (Nat.le_of_ble_eq_true rfl) ⟨rfl, rfl⟩ (fun q5 => ?_)
  refine r_if_ne (tgt := 11) dX10_worldsBy_24 (by decide) ?_ ?_
  · exact hk11 x4 q5.2
  · refine r_lload_n_1 dX10_worldsBy_27 rfl ?_
    exact r_lreturn dX10_worldsBy_28 rfl
theorem w_X10_worldsBy_11 {E : XE} (n : Nat) : ∀ (v2 : Int64) (d : DD), AW E si_X10_worldsBy 0 0 (QM E wrL) (f_X10_worldsBy_11 n v2 d) 11 [(0, .ref 86), (2, .long v2)] [] d := by
  induction n with
  | zero => intros; exact r_none
  | succ n ih => intro v2 d; exact w_X10_worldsBy_11B (f_X10_worldsBy_11 n) ih v2 d
def f_X10_worldsBy (p1 : Int32) (d : DD) : Option (Int64 × DD) :=
  (f_X10_letAll p1 d).bind fun q1 =>
  (f_X10_firstWays q1.2).bind fun q2 =>
  f_X10_worldsBy_11 FU (0 : Int64) q2.2
set_option maxRecDepth 100000 in
set_option maxHeartbeats 4000000 in
theorem am_X10_worldsBy (p1 : Int32) (d : DD) : AM wrL mi_X10_worldsBy 3 78 [.ref 86, .int p1] d (f_X10_worldsBy p1 d) := by
  refine AM_intro (si := si_X10_worldsBy) (lv := [(0, .ref 86), (1, .int p1)]) rfl (by decide +kernel) rfl (Nat.le_of_ble_eq_true rfl) (fun E => ?_)
  unfold f_X10_worldsBy
  refine r_aload_n_0 dX10_worldsBy_0 rfl ?_
  refine r_iload_n_1 dX10_worldsBy_1 rfl ?_
  refine r_callVU (cc := 10) [] (am_X10_letAll p1 d) rfl rfl cf_X10_letAll mw_X10_270 (by decide) dX10_worldsBy_2 rfl (Nat.le_of_ble_eq_true rfl) ⟨rfl, rfl⟩ (fun q1 => ?_)
  refine r_lconst dX10_worldsBy_5 kl_0 ?_
  refine r_lstore_n_x dX10_worldsBy_6 rfl (by decide) rfl ?_
  refine r_aload_n_1 dX10_worldsBy_7 rfl ?_
  refine r_callVU (cc := 10) [] (am_X10_firstWays q1.2) rfl rfl cf_X10_firstWays mw_X10_273 (by decide) dX10_worldsBy_8 rfl (Nat.le_of_ble_eq_true rfl) ⟨rfl, rfl⟩ (fun q2 => ?_)
  refine r_sub [1, 0] (lv' := [(0, .ref 86), (2, .long (0 : Int64))]) rfl ?_
  exact w_X10_worldsBy_11 FU (0 : Int64) q2.2
theorem cf_X10_worldsBy : CFv mi_X10_worldsBy 1 := ⟨iw_X10_worldsBy, vw_X10_worldsBy, nw_X10, cw_X10_worldsBy, by unfold plainF; decide +kernel⟩
abbrev si_X10_common : SI := (cX10_common, RX10, 10, (some .long), 0, 0)
def f_X10_common_6B (k6 : Int64 → Int64 → DD → Option (Int64 × DD)) (v4 : Int64) (v6 : Int64) (d : DD) : Option (Int64 × DD) :=
  if v6 = (0 : Int64) then
  some (v4, d)
  else
  if v6 = 0 then none else
    bd (v4 - v4 / v6 * v6) fun x1 =>
    k6 v6 x1 d
def f_X10_common_6 : Nat → Int64 → Int64 → DD → Option (Int64 × DD)
  | 0, _, _, _ => none
  | n + 1, v4, v6, d => f_X10_common_6B (f_X10_common_6 n) v4 v6 d
set_option maxRecDepth 100000 in
set_option maxHeartbeats 4000000 in
theorem w_X10_common_6B {E : XE} (k6 : Int64 → Int64 → DD → Option (Int64 × DD)) (hk6 : ∀ (v4 : Int64) (v6 : Int64) (d : DD), AW E si_X10_common 0 0 (QM E wrL) (k6 v4 v6 d) 6 [(4, .long v4), (6, .long v6)] [] d) (v4 : Int64) (v6 : Int64) (d : DD) : AW E si_X10_common 0 0 (QM E wrL) (f_X10_common_6B k6 v4 v6 d) 6 [(4, .long v4), (6, .long v6)] [] d := by
  unfold f_X10_common_6B
  refine r_lload_w_1 dX10_common_6 ?_
  refine r_lconst dX10_common_8 kl_0 ?_
  refine r_lcmp_eq (tgt := 31) dX10_common_9 dX10_common_10 (by decide) ?_ ?_
  · refine r_lload_w_0 dX10_common_31 ?_
    exact r_lreturn dX10_common_33 rfl
  · refine r_lload_w_0 dX10_common_13 ?_
    refine r_lload_w_1 dX10_common_15 ?_
    refine r_if (fun _ => r_none) (fun hy => r_lrem dX10_common_17 hy ?_)
    refine r_bdJ (fun x1 => ?_)
    refine r_lstore_w_x dX10_common_18 (by decide) rfl ?_
    refine r_lload_w_2 dX10_common_20 ?_
    refine r_lstore_w_1 dX10_common_22 (by decide) rfl ?_
    refine r_lload_w_0 dX10_common_24 ?_
    refine r_lstore_w_2 dX10_common_26 (by decide) rfl ?_
    refine r_goto (tgt := 6) dX10_common_28 (by decide) ?_
    refine r_sub [1, 2] (lv' := [(4, .long v6), (6, .long x1)]) rfl ?_
    exact hk6 v6 x1 d
theorem w_X10_common_6 {E : XE} (n : Nat) : ∀ (v4 : Int64) (v6 : Int64) (d : DD), AW E si_X10_common 0 0 (QM E wrL) (f_X10_common_6 n v4 v6 d) 6 [(4, .long v4), (6, .long v6)] [] d := by
  induction n with
  | zero => intros; exact r_none
  | succ n ih => intro v4 v6 d; exact w_X10_common_6B (f_X10_common_6 n) ih v4 v6 d
def f_X10_common (p0 : Int64) (p2 : Int64) (d : DD) : Option (Int64 × DD) :=
  f_X10_common_6 FU p0 p2 d
set_option maxRecDepth 100000 in
set_option maxHeartbeats 4000000 in
theorem am_X10_common (p0 : Int64) (p2 : Int64) (d : DD) : AM wrL mi_X10_common 0 0 [.long p0, .long p2] d (f_X10_common p0 p2 d) := by
  refine AM_intro (si := si_X10_common) (lv := [(0, .long p0), (2, .long p2)]) rfl (by decide +kernel) rfl (Nat.le_of_ble_eq_true rfl) (fun E => ?_)
  unfold f_X10_common
  refine r_lload_n_0 dX10_common_0 rfl ?_
  refine r_lstore_w_x dX10_common_1 (by decide) rfl ?_
  refine r_lload_n_2 dX10_common_3 rfl ?_
  refine r_lstore_w_x dX10_common_4 (by decide) rfl ?_
  refine r_sub [1, 0] (lv' := [(4, .long p0), (6, .long p2)]) rfl ?_
  exact w_X10_common_6 FU p0 p2 d
theorem cf_X10_common : CFs mi_X10_common 2 := ⟨sw_X10_common, nw_X10, cw_X10_common, by unfold plainF; decide +kernel⟩
abbrev si_X10_part : SI := (cX10_part, RX10, 5, (some .long), 1, 29)
def f_X10_part_10 (v0 : Int64) (v2 : Int64) (t0 : Int64) (d : DD) : Option (Int64 × DD) :=
  (f_X10_common v2 v0 d).bind fun q1 =>
  if q1.1 = 0 then none else
  some (t0 / q1.1, q1.2)
set_option maxRecDepth 100000 in
set_option maxHeartbeats 4000000 in
theorem w_X10_part_10 {E : XE} (v0 : Int64) (v2 : Int64) (t0 : Int64) (d : DD) : AW E si_X10_part 0 0 (QM E wrL) (f_X10_part_10 v0 v2 t0 d) 10 [(0, .long v0), (2, .long v2)] [.long t0] d := by
  unfold f_X10_part_10
  refine r_lload_n_1 dX10_part_10 rfl ?_
  refine r_lload_n_0 dX10_part_11 rfl ?_
  refine r_callSL [.long t0] (am_X10_common v2 v0 d) cf_X10_common mw_X10_300 (by decide) dX10_part_12 rfl (Nat.le_of_ble_eq_true rfl) ⟨rfl, rfl⟩ (fun q1 => ?_)
  refine r_if (fun _ => r_none) (fun hy => r_ldiv dX10_part_15 hy ?_)
  exact r_lreturn dX10_part_16 rfl
def f_X10_part (p0 : Int64) (p2 : Int64) (p4 : Int32) (d : DD) : Option (Int64 × DD) :=
  if p4 = 0 then
  f_X10_part_10 p0 p2 p0 d
  else
  f_X10_part_10 p0 p2 p2 d
set_option maxRecDepth 100000 in
set_option maxHeartbeats 4000000 in
theorem am_X10_part (p0 : Int64) (p2 : Int64) (p4 : Int32) (d : DD) : AM wrL mi_X10_part 1 29 [.long p0, .long p2, .int p4] d (f_X10_part p0 p2 p4 d) := by
  refine AM_intro (si := si_X10_part) (lv := [(0, .long p0), (2, .long p2), (4, .int p4)]) rfl (by decide +kernel) rfl (Nat.le_of_ble_eq_true rfl) (fun E => ?_)
  unfold f_X10_part
  refine r_iload_w_2 dX10_part_0 ?_
  refine r_if_ne (tgt := 9) dX10_part_2 (by decide) ?_ ?_
  · refine r_lload_n_1 dX10_part_9 rfl ?_
    refine r_sub [0, 1] (lv' := [(0, .long p0), (2, .long p2)]) rfl ?_
    exact w_X10_part_10 p0 p2 p2 d
  · refine r_lload_n_0 dX10_part_5 rfl ?_
    refine r_goto (tgt := 10) dX10_part_6 (by decide) ?_
    refine r_sub [0, 1] (lv' := [(0, .long p0), (2, .long p2)]) rfl ?_
    exact w_X10_part_10 p0 p2 p0 d
theorem cf_X10_part : CFs mi_X10_part 3 := ⟨sw_X10_part, nw_X10, cw_X10_part, by unfold plainF; decide +kernel⟩
abbrev si_X10_bet : SI := (cX10_bet, RX10, 12, (some .long), 4, 101)
def f_X10_bet_260B (k227 : Int32 → Int32 → Int32 → Int64 → Int64 → DD → Option (Int64 × DD)) (k230 : Int32 → Int32 → Int32 → Int64 → Int64 → Int32 → DD → Option (Int64 × DD)) (k260 : Int32 → Int32 → Int32 → Int64 → Int64 → Int32 → Int64 → Int32 → DD → Option (Int64 × DD)) (v1 : Int32) (v2 : Int32) (v3 : Int32) (v4 : Int64) (v6 : Int64) (v8 : Int32) (v9 : Int64) (v11 : Int32) (d : DD) : Option (Int64 × DD) :=
  if ixb (0 : Int32) (ln 88) then
  if v11 < (d.1 88 (0 : Int32).toNatClampNeg) then
    if (0 : Int64) < v9 then
      if v11 = v1 then
        bd (v9 * (1 : Int64)) fun x15 =>
          k260 v1 v2 v3 v4 v6 v8 x15 (v11 + (1 : Int32)) d
        else
        if ixb v11 (ln 97) then
          if ixb (((30 : Int32) * v11) + v8) (ln 99) then
            (f_X10_bits ((d.2 97 v11.toNatClampNeg) &&& (d.2 99 (((30 : Int32) * v11) + v8).toNatClampNeg)) d).bind fun q13 =>
              bd (v9 * q13.1.toInt64) fun x14 =>
              k260 v1 v2 v3 v4 v6 v8 x14 (v11 + (1 : Int32)) q13.2
            else none
          else none
      else
      bd (v6 + v9) fun x12 =>
        k230 v1 v2 v3 v4 x12 (v8 + (1 : Int32)) d
    else
    bd (v6 + v9) fun x11 =>
      k230 v1 v2 v3 v4 x11 (v8 + (1 : Int32)) d
  else none
def f_X10_bet_260 (k227 : Int32 → Int32 → Int32 → Int64 → Int64 → DD → Option (Int64 × DD)) (k230 : Int32 → Int32 → Int32 → Int64 → Int64 → Int32 → DD → Option (Int64 × DD)) : Nat → Int32 → Int32 → Int32 → Int64 → Int64 → Int32 → Int64 → Int32 → DD → Option (Int64 × DD)
  | 0, _, _, _, _, _, _, _, _, _ => none
  | n + 1, v1, v2, v3, v4, v6, v8, v9, v11, d => f_X10_bet_260B k227 k230 (f_X10_bet_260 k227 k230 n) v1 v2 v3 v4 v6 v8 v9 v11 d
set_option maxRecDepth 100000 in
set_option maxHeartbeats 4000000 in
theorem w_X10_bet_260B {E : XE} (k227 : Int32 → Int32 → Int32 → Int64 → Int64 → DD → Option (Int64 × DD)) (hk227 : ∀ (v1 : Int32) (v2 : Int32) (v3 : Int32) (v4 : Int64) (v6 : Int64) (d : DD), AW E si_X10_bet 0 0 (QM E wrL) (k227 v1 v2 v3 v4 v6 d) 227 [(0, .ref 86), (1, .int v1), (2, .int v2), (3, .int v3), (4, .long v4), (6, .long v6)] [] d) (k230 : Int32 → Int32 → Int32 → Int64 → Int64 → Int32 → DD → Option (Int64 × DD)) (hk230 : ∀ (v1 : Int32) (v2 : Int32) (v3 : Int32) (v4 : Int64) (v6 : Int64) (v8 : Int32) (d : DD), AW E si_X10_bet 0 0 (QM E wrL) (k230 v1 v2 v3 v4 v6 v8 d) 230 [(0, .ref 86), (1, .int v1), (2, .int v2), (3, .int v3), (4, .long v4), (6, .long v6), (8, .int v8)] [] d) (k260 : Int32 → Int32 → Int32 → Int64 → Int64 → Int32 → Int64 → Int32 → DD → Option (Int64 × DD)) (hk260 : ∀ (v1 : Int32) (v2 : Int32) (v3 : Int32) (v4 : Int64) (v6 : Int64) (v8 : Int32) (v9 : Int64) (v11 : Int32) (d : DD), AW E si_X10_bet 0 0 (QM E wrL) (k260 v1 v2 v3 v4 v6 v8 v9 v11 d) 260 [(0, .ref 86), (1, .int v1), (2, .int v2), (3, .int v3), (4, .long v4), (6, .long v6), (8, .int v8), (9, .long v9), (11, .int v11)] [] d) (v1 : Int32) (v2 : Int32) (v3 : Int32) (v4 : Int64) (v6 : Int64) (v8 : Int32) (v9 : Int64) (v11 : Int32) (d : DD) : AW E si_X10_bet 0 0 (QM E wrL) (f_X10_bet_260B k227 k230 k260 v1 v2 v3 v4 v6 v8 v9 v11 d) 260 [(0, .ref 86), (1, .int v1), (2, .int v2), (3, .int v3), (4, .long v4), (6, .long v6), (8, .int v8), (9, .long v9), (11, .int v11)] [] d := by
  unfold f_X10_bet_260B
  refine r_iload_w_8 dX10_bet_260 ?_
  refine r_aload_n_0 dX10_bet_262 rfl ?_
  refine r_getr (t := 88) (cc := 10) 6 rfl rfl uX10 (by decide) rfl fw_X10_41 rfl dX10_bet_263 ?_
  refine r_iconst dX10_bet_266 ki_0 ?_
  refine r_iaload rfl dX10_bet_267 ?_
  refine r_icmp_ge (tgt := 324) dX10_bet_268 (by decide) ?_ ?_
  · refine r_lload_w_5 dX10_bet_324 ?_
    refine r_lload_w_7 dX10_bet_326 ?_
    refine r_ladd dX10_bet_328 ?_
    refine r_bdJ (fun x11 => ?_)
    refine r_lstore_w_5 dX10_bet_329 (by decide) rfl ?_
    refine r_iinc_6 dX10_bet_331 ki_1 (by decide) rfl ?_
    refine r_goto (tgt := 230) dX10_bet_334 (by decide) ?_
    refine r_sub [0, 1, 2, 3, 4, 5, 6] (lv' := [(0, .ref 86), (1, .int v1), (2, .int v2), (3, .int v3), (4, .long v4), (6, .long x11), (8, .int (v8 + (1 : Int32)))]) rfl ?_
    exact hk230 v1 v2 v3 v4 x11 (v8 + (1 : Int32)) d
  · refine r_lload_w_7 dX10_bet_271 ?_
    refine r_lconst dX10_bet_273 kl_0 ?_
    refine r_lcmp_le (tgt := 324) dX10_bet_274 dX10_bet_275 (by decide) ?_ ?_
    · refine r_lload_w_5 dX10_bet_324 ?_
      refine r_lload_w_7 dX10_bet_326 ?_
      refine r_ladd dX10_bet_328 ?_
      refine r_bdJ (fun x12 => ?_)
      refine r_lstore_w_5 dX10_bet_329 (by decide) rfl ?_
      refine r_iinc_6 dX10_bet_331 ki_1 (by decide) rfl ?_
      refine r_goto (tgt := 230) dX10_bet_334 (by decide) ?_
      refine r_sub [0, 1, 2, 3, 4, 5, 6] (lv' := [(0, .ref 86), (1, .int v1), (2, .int v2), (3, .int v3), (4, .long v4), (6, .long x12), (8, .int (v8 + (1 : Int32)))]) rfl ?_
      exact hk230 v1 v2 v3 v4 x12 (v8 + (1 : Int32)) d
    · refine r_lload_w_7 dX10_bet_278 ?_
      refine r_iload_w_8 dX10_bet_280 ?_
      refine r_iload_n_1 dX10_bet_282 rfl ?_
      refine r_icmp_ne (tgt := 290) dX10_bet_283 (by decide) ?_ ?_
      · refine r_aload_n_0 dX10_bet_290 rfl ?_
        refine r_getr (t := 97) (cc := 10) 25 rfl rfl uX10 (by decide) rfl fw_X10_70 rfl dX10_bet_291 ?_
        refine r_iload_w_8 dX10_bet_294 ?_
        refine r_laload rfl dX10_bet_296 ?_
        refine r_aload_n_0 dX10_bet_297 rfl ?_
        refine r_getr (t := 99) (cc := 10) 27 rfl rfl uX10 (by decide) rfl fw_X10_76 rfl dX10_bet_298 ?_
        refine r_bipush dX10_bet_301 kb_30 ?_
        refine r_iload_w_8 dX10_bet_303 ?_
        refine r_imul dX10_bet_305 ?_
        refine r_iload_w_6 dX10_bet_306 ?_
        refine r_iadd dX10_bet_308 ?_
        refine r_laload rfl dX10_bet_309 ?_
        refine r_land dX10_bet_310 ?_
        refine r_callSI [.long v9] (am_X10_bits ((d.2 97 v11.toNatClampNeg) &&& (d.2 99 (((30 : Int32) * v11) + v8).toNatClampNeg)) d) cf_X10_bits mw_X10_266 (by decide) dX10_bet_311 rfl (Nat.le_of_ble_eq_true rfl) ⟨rfl, rfl⟩ (fun q13 => ?_)
        refine r_i2l dX10_bet_314 ?_
        refine r_lmul dX10_bet_315 ?_
        refine r_bdJ (fun x14 => ?_)
        refine r_lstore_w_7 dX10_bet_316 (by decide) rfl ?_
        refine r_iinc_8 dX10_bet_318 ki_1 (by decide) rfl ?_
        refine r_goto (tgt := 260) dX10_bet_321 (by decide) ?_
        exact hk260 v1 v2 v3 v4 v6 v8 x14 (v11 + (1 : Int32)) q13.2
      · refine r_lconst dX10_bet_286 kl_1 ?_
        refine r_goto (tgt := 315) dX10_bet_287 (by decide) ?_
        refine r_lmul dX10_bet_315 ?_
        refine r_bdJ (fun x15 => ?_)
        refine r_lstore_w_7 dX10_bet_316 (by decide) rfl ?_
        refine r_iinc_8 dX10_bet_318 ki_1 (by decide) rfl ?_
        refine r_goto (tgt := 260) dX10_bet_321 (by decide) ?_
        exact hk260 v1 v2 v3 v4 v6 v8 x15 (v11 + (1 : Int32)) d
theorem w_X10_bet_260 {E : XE} (k227 : Int32 → Int32 → Int32 → Int64 → Int64 → DD → Option (Int64 × DD)) (hk227 : ∀ (v1 : Int32) (v2 : Int32) (v3 : Int32) (v4 : Int64) (v6 : Int64) (d : DD), AW E si_X10_bet 0 0 (QM E wrL) (k227 v1 v2 v3 v4 v6 d) 227 [(0, .ref 86), (1, .int v1), (2, .int v2), (3, .int v3), (4, .long v4), (6, .long v6)] [] d) (k230 : Int32 → Int32 → Int32 → Int64 → Int64 → Int32 → DD → Option (Int64 × DD)) (hk230 : ∀ (v1 : Int32) (v2 : Int32) (v3 : Int32) (v4 : Int64) (v6 : Int64) (v8 : Int32) (d : DD), AW E si_X10_bet 0 0 (QM E wrL) (k230 v1 v2 v3 v4 v6 v8 d) 230 [(0, .ref 86), (1, .int v1), (2, .int v2), (3, .int v3), (4, .long v4), (6, .long v6), (8, .int v8)] [] d) (n : Nat) : ∀ (v1 : Int32) (v2 : Int32) (v3 : Int32) (v4 : Int64) (v6 : Int64) (v8 : Int32) (v9 : Int64) (v11 : Int32) (d : DD), AW E si_X10_bet 0 0 (QM E wrL) (f_X10_bet_260 k227 k230 n v1 v2 v3 v4 v6 v8 v9 v11 d) 260 [(0, .ref 86), (1, .int v1), (2, .int v2), (3, .int v3), (4, .long v4), (6, .long v6), (8, .int v8), (9, .long v9), (11, .int v11)] [] d := by
  induction n with
  | zero => intros; exact r_none
  | succ n ih => intro v1 v2 v3 v4 v6 v8 v9 v11 d; exact w_X10_bet_260B k227 hk227 k230 hk230 (f_X10_bet_260 k227 k230 n) ih v1 v2 v3 v4 v6 v8 v9 v11 d
def f_X10_bet_230B (k227 : Int32 → Int32 → Int32 → Int64 → Int64 → DD → Option (Int64 × DD)) (k230 : Int32 → Int32 → Int32 → Int64 → Int64 → Int32 → DD → Option (Int64 × DD)) (v1 : Int32) (v2 : Int32) (v3 : Int32) (v4 : Int64) (v6 : Int64) (v8 : Int32) (d : DD) : Option (Int64 × DD) :=
  if v8 < (30 : Int32) then
  if ixb v1 (ln 97) then
    if ixb v8 (ln 100) then
      (f_X10_bits ((d.2 97 v1.toNatClampNeg) &&& (d.2 100 v8.toNatClampNeg)) d).bind fun q10 =>
        f_X10_bet_260 k227 k230 FU v1 v2 v3 v4 v6 v8 q10.1.toInt64 (0 : Int32) q10.2
      else none
    else none
  else
  (f_X10_nextWays d).bind fun q5 =>
    if q5.1 = 0 then
    if v4 = (0 : Int64) then
      (f_X10_throwsIf (1 : Int32) q5.2).bind fun q8 =>
        if q8.1 = 0 then
        (f_X10_part v6 v4 v3 q8.2).bind fun q9 =>
          some (q9.1, q9.2)
        else
        some ((0 : Int64), q8.2)
      else
      (f_X10_throwsIf (0 : Int32) q5.2).bind fun q6 =>
        if q6.1 = 0 then
        (f_X10_part v6 v4 v3 q6.2).bind fun q7 =>
          some (q7.1, q7.2)
        else
        some ((0 : Int64), q6.2)
    else
    k227 v1 v2 v3 v4 v6 q5.2
def f_X10_bet_230 (k227 : Int32 → Int32 → Int32 → Int64 → Int64 → DD → Option (Int64 × DD)) : Nat → Int32 → Int32 → Int32 → Int64 → Int64 → Int32 → DD → Option (Int64 × DD)
  | 0, _, _, _, _, _, _, _ => none
  | n + 1, v1, v2, v3, v4, v6, v8, d => f_X10_bet_230B k227 (f_X10_bet_230 k227 n) v1 v2 v3 v4 v6 v8 d
set_option maxRecDepth 100000 in
set_option maxHeartbeats 4000000 in
theorem w_X10_bet_230B {E : XE} (k227 : Int32 → Int32 → Int32 → Int64 → Int64 → DD → Option (Int64 × DD)) (hk227 : ∀ (v1 : Int32) (v2 : Int32) (v3 : Int32) (v4 : Int64) (v6 : Int64) (d : DD), AW E si_X10_bet 0 0 (QM E wrL) (k227 v1 v2 v3 v4 v6 d) 227 [(0, .ref 86), (1, .int v1), (2, .int v2), (3, .int v3), (4, .long v4), (6, .long v6)] [] d) (k230 : Int32 → Int32 → Int32 → Int64 → Int64 → Int32 → DD → Option (Int64 × DD)) (hk230 : ∀ (v1 : Int32) (v2 : Int32) (v3 : Int32) (v4 : Int64) (v6 : Int64) (v8 : Int32) (d : DD), AW E si_X10_bet 0 0 (QM E wrL) (k230 v1 v2 v3 v4 v6 v8 d) 230 [(0, .ref 86), (1, .int v1), (2, .int v2), (3, .int v3), (4, .long v4), (6, .long v6), (8, .int v8)] [] d) (v1 : Int32) (v2 : Int32) (v3 : Int32) (v4 : Int64) (v6 : Int64) (v8 : Int32) (d : DD) : AW E si_X10_bet 0 0 (QM E wrL) (f_X10_bet_230B k227 k230 v1 v2 v3 v4 v6 v8 d) 230 [(0, .ref 86), (1, .int v1), (2, .int v2), (3, .int v3), (4, .long v4), (6, .long v6), (8, .int v8)] [] d := by
  unfold f_X10_bet_230B
  refine r_iload_w_6 dX10_bet_230 ?_
  refine r_bipush dX10_bet_232 kb_30 ?_
  refine r_icmp_ge (tgt := 337) dX10_bet_234 (by decide) ?_ ?_
  · refine r_aload_n_0 dX10_bet_337 rfl ?_
    refine r_callVI (cc := 10) [] (am_X10_nextWays d) rfl rfl cf_X10_nextWays mw_X10_280 (by decide) dX10_bet_338 rfl (Nat.le_of_ble_eq_true rfl) ⟨rfl, rfl⟩ (fun q5 => ?_)
    refine r_if_ne (tgt := 227) dX10_bet_341 (by decide) ?_ ?_
    · refine r_sub [0, 1, 2, 3, 4, 5] (lv' := [(0, .ref 86), (1, .int v1), (2, .int v2), (3, .int v3), (4, .long v4), (6, .long v6)]) rfl ?_
      exact hk227 v1 v2 v3 v4 v6 q5.2
    · refine r_aload_n_0 dX10_bet_344 rfl ?_
      refine r_lload_w_4 dX10_bet_345 ?_
      refine r_lconst dX10_bet_347 kl_0 ?_
      refine r_lcmp_ne (tgt := 356) dX10_bet_348 dX10_bet_349 (by decide) ?_ ?_
      · refine r_iconst dX10_bet_356 ki_0 ?_
        refine r_callVI (cc := 10) [] (am_X10_throwsIf (0 : Int32) q5.2) rfl rfl cf_X10_throwsIf mw_X10_237 (by decide) dX10_bet_357 rfl (Nat.le_of_ble_eq_true rfl) ⟨rfl, rfl⟩ (fun q6 => ?_)
        refine r_if_eq (tgt := 367) dX10_bet_360 (by decide) ?_ ?_
        · refine r_lload_w_5 dX10_bet_367 ?_
          refine r_lload_w_4 dX10_bet_369 ?_
          refine r_iload_n_3 dX10_bet_371 rfl ?_
          refine r_callSL [] (am_X10_part v6 v4 v3 q6.2) cf_X10_part mw_X10_304 (by decide) dX10_bet_372 rfl (Nat.le_of_ble_eq_true rfl) ⟨rfl, rfl⟩ (fun q7 => ?_)
          exact r_lreturn dX10_bet_375 rfl
        · refine r_lconst dX10_bet_363 kl_0 ?_
          refine r_goto (tgt := 375) dX10_bet_364 (by decide) ?_
          exact r_lreturn dX10_bet_375 rfl
      · refine r_iconst dX10_bet_352 ki_1 ?_
        refine r_goto (tgt := 357) dX10_bet_353 (by decide) ?_
        refine r_callVI (cc := 10) [] (am_X10_throwsIf (1 : Int32) q5.2) rfl rfl cf_X10_throwsIf mw_X10_237 (by decide) dX10_bet_357 rfl (Nat.le_of_ble_eq_true rfl) ⟨rfl, rfl⟩ (fun q8 => ?_)
        refine r_if_eq (tgt := 367) dX10_bet_360 (by decide) ?_ ?_
        · refine r_lload_w_5 dX10_bet_367 ?_
          refine r_lload_w_4 dX10_bet_369 ?_
          refine r_iload_n_3 dX10_bet_371 rfl ?_
          refine r_callSL [] (am_X10_part v6 v4 v3 q8.2) cf_X10_part mw_X10_304 (by decide) dX10_bet_372 rfl (Nat.le_of_ble_eq_true rfl) ⟨rfl, rfl⟩ (fun q9 => ?_)
          exact r_lreturn dX10_bet_375 rfl
        · refine r_lconst dX10_bet_363 kl_0 ?_
          refine r_goto (tgt := 375) dX10_bet_364 (by decide) ?_
          exact r_lreturn dX10_bet_375 rfl
  · refine r_aload_n_0 dX10_bet_237 rfl ?_
    refine r_getr (t := 97) (cc := 10) 25 rfl rfl uX10 (by decide) rfl fw_X10_70 rfl dX10_bet_238 ?_
    refine r_iload_n_1 dX10_bet_241 rfl ?_
    refine r_laload rfl dX10_bet_242 ?_
    refine r_aload_n_0 dX10_bet_243 rfl ?_
    refine r_getr (t := 100) (cc := 10) 28 rfl rfl uX10 (by decide) rfl fw_X10_79 rfl dX10_bet_244 ?_
    refine r_iload_w_6 dX10_bet_247 ?_
    refine r_laload rfl dX10_bet_249 ?_
    refine r_land dX10_bet_250 ?_
    refine r_callSI [] (am_X10_bits ((d.2 97 v1.toNatClampNeg) &&& (d.2 100 v8.toNatClampNeg)) d) cf_X10_bits mw_X10_266 (by decide) dX10_bet_251 rfl (Nat.le_of_ble_eq_true rfl) ⟨rfl, rfl⟩ (fun q10 => ?_)
    refine r_i2l dX10_bet_254 ?_
    refine r_lstore_w_x dX10_bet_255 (by decide) rfl ?_
    refine r_iconst dX10_bet_257 ki_0 ?_
    refine r_istore_w_x dX10_bet_258 (by decide) rfl ?_
    refine r_sub [2, 3, 4, 5, 6, 7, 8, 1, 0] (lv' := [(0, .ref 86), (1, .int v1), (2, .int v2), (3, .int v3), (4, .long v4), (6, .long v6), (8, .int v8), (9, .long q10.1.toInt64), (11, .int (0 : Int32))]) rfl ?_
    exact w_X10_bet_260 k227 hk227 k230 hk230 FU v1 v2 v3 v4 v6 v8 q10.1.toInt64 (0 : Int32) q10.2
theorem w_X10_bet_230 {E : XE} (k227 : Int32 → Int32 → Int32 → Int64 → Int64 → DD → Option (Int64 × DD)) (hk227 : ∀ (v1 : Int32) (v2 : Int32) (v3 : Int32) (v4 : Int64) (v6 : Int64) (d : DD), AW E si_X10_bet 0 0 (QM E wrL) (k227 v1 v2 v3 v4 v6 d) 227 [(0, .ref 86), (1, .int v1), (2, .int v2), (3, .int v3), (4, .long v4), (6, .long v6)] [] d) (n : Nat) : ∀ (v1 : Int32) (v2 : Int32) (v3 : Int32) (v4 : Int64) (v6 : Int64) (v8 : Int32) (d : DD), AW E si_X10_bet 0 0 (QM E wrL) (f_X10_bet_230 k227 n v1 v2 v3 v4 v6 v8 d) 230 [(0, .ref 86), (1, .int v1), (2, .int v2), (3, .int v3), (4, .long v4), (6, .long v6), (8, .int v8)] [] d := by
  induction n with
  | zero => intros; exact r_none
  | succ n ih => intro v1 v2 v3 v4 v6 v8 d; exact w_X10_bet_230B k227 hk227 (f_X10_bet_230 k227 n) ih v1 v2 v3 v4 v6 v8 d
def f_X10_bet_227B (k227 : Int32 → Int32 → Int32 → Int64 → Int64 → DD → Option (Int64 × DD)) (v1 : Int32) (v2 : Int32) (v3 : Int32) (v4 : Int64) (v6 : Int64) (d : DD) : Option (Int64 × DD) :=
  f_X10_bet_230 k227 FU v1 v2 v3 v4 v6 v2 d
def f_X10_bet_227 : Nat → Int32 → Int32 → Int32 → Int64 → Int64 → DD → Option (Int64 × DD)
  | 0, _, _, _, _, _, _ => none
  | n + 1, v1, v2, v3, v4, v6, d => f_X10_bet_227B (f_X10_bet_227 n) v1 v2 v3 v4 v6 d
set_option maxRecDepth 100000 in
set_option maxHeartbeats 4000000 in
theorem w_X10_bet_227B {E : XE} (k227 : Int32 → Int32 → Int32 → Int64 → Int64 → DD → Option (Int64 × DD)) (hk227 : ∀ (v1 : Int32) (v2 : Int32) (v3 : Int32) (v4 : Int64) (v6 : Int64) (d : DD), AW E si_X10_bet 0 0 (QM E wrL) (k227 v1 v2 v3 v4 v6 d) 227 [(0, .ref 86), (1, .int v1), (2, .int v2), (3, .int v3), (4, .long v4), (6, .long v6)] [] d) (v1 : Int32) (v2 : Int32) (v3 : Int32) (v4 : Int64) (v6 : Int64) (d : DD) : AW E si_X10_bet 0 0 (QM E wrL) (f_X10_bet_227B k227 v1 v2 v3 v4 v6 d) 227 [(0, .ref 86), (1, .int v1), (2, .int v2), (3, .int v3), (4, .long v4), (6, .long v6)] [] d := by
  unfold f_X10_bet_227B
  refine r_iload_n_2 dX10_bet_227 rfl ?_
  refine r_istore_w_x dX10_bet_228 (by decide) rfl ?_
  refine r_sub [1, 2, 3, 4, 5, 6, 0] (lv' := [(0, .ref 86), (1, .int v1), (2, .int v2), (3, .int v3), (4, .long v4), (6, .long v6), (8, .int v2)]) rfl ?_
  exact w_X10_bet_230 k227 hk227 FU v1 v2 v3 v4 v6 v2 d
theorem w_X10_bet_227 {E : XE} (n : Nat) : ∀ (v1 : Int32) (v2 : Int32) (v3 : Int32) (v4 : Int64) (v6 : Int64) (d : DD), AW E si_X10_bet 0 0 (QM E wrL) (f_X10_bet_227 n v1 v2 v3 v4 v6 d) 227 [(0, .ref 86), (1, .int v1), (2, .int v2), (3, .int v3), (4, .long v4), (6, .long v6)] [] d := by
  induction n with
  | zero => intros; exact r_none
  | succ n ih => intro v1 v2 v3 v4 v6 d; exact w_X10_bet_227B (f_X10_bet_227 n) ih v1 v2 v3 v4 v6 d
def f_X10_bet_138B (k41 : Int32 → Int32 → Int32 → Int32 → DD → Option (Int64 × DD)) (k110 : Int32 → Int32 → Int32 → Int32 → Int32 → DD → Option (Int64 × DD)) (k138 : Int32 → Int32 → Int32 → Int32 → Int32 → Int32 → DD → Option (Int64 × DD)) (v1 : Int32) (v2 : Int32) (v3 : Int32) (v4 : Int32) (v5 : Int32) (v6 : Int32) (d : DD) : Option (Int64 × DD) :=
  if ixb v5 (ln 95) then
  if v6 < (d.1 95 v5.toNatClampNeg) then
    if ixb (((30 : Int32) * v5) + v4) (ln 99) then
      (f_X10_nextHour v5 v6 v2 d).bind fun q18 =>
        if v4 < q18.1 then
        if ixb (((30 : Int32) * v5) + v4) (ln 99) then
          bd (u2 q18.2 99 (((30 : Int32) * v5) + v4).toNatClampNeg ((d.2 99 (((30 : Int32) * v5) + v4).toNatClampNeg) ||| ((1 : Int64) <<< (v6.toInt64 &&& 63)))) fun d20 =>
          k138 v1 v2 v3 v4 v5 (v6 + (1 : Int32)) d20
          else none
        else
        if ixb (((30 : Int32) * v5) + v4) (ln 99) then
          bd (u2 q18.2 99 (((30 : Int32) * v5) + v4).toNatClampNeg ((d.2 99 (((30 : Int32) * v5) + v4).toNatClampNeg) ||| (0 : Int64))) fun d19 =>
          k138 v1 v2 v3 v4 v5 (v6 + (1 : Int32)) d19
          else none
      else none
    else
    k110 v1 v2 v3 v4 (v5 + (1 : Int32)) d
  else none
def f_X10_bet_138 (k41 : Int32 → Int32 → Int32 → Int32 → DD → Option (Int64 × DD)) (k110 : Int32 → Int32 → Int32 → Int32 → Int32 → DD → Option (Int64 × DD)) : Nat → Int32 → Int32 → Int32 → Int32 → Int32 → Int32 → DD → Option (Int64 × DD)
  | 0, _, _, _, _, _, _, _ => none
  | n + 1, v1, v2, v3, v4, v5, v6, d => f_X10_bet_138B k41 k110 (f_X10_bet_138 k41 k110 n) v1 v2 v3 v4 v5 v6 d
set_option maxRecDepth 100000 in
set_option maxHeartbeats 4000000 in
theorem w_X10_bet_138B {E : XE} (k41 : Int32 → Int32 → Int32 → Int32 → DD → Option (Int64 × DD)) (hk41 : ∀ (v1 : Int32) (v2 : Int32) (v3 : Int32) (v4 : Int32) (d : DD), AW E si_X10_bet 0 0 (QM E wrL) (k41 v1 v2 v3 v4 d) 41 [(0, .ref 86), (1, .int v1), (2, .int v2), (3, .int v3), (4, .int v4)] [] d) (k110 : Int32 → Int32 → Int32 → Int32 → Int32 → DD → Option (Int64 × DD)) (hk110 : ∀ (v1 : Int32) (v2 : Int32) (v3 : Int32) (v4 : Int32) (v5 : Int32) (d : DD), AW E si_X10_bet 0 0 (QM E wrL) (k110 v1 v2 v3 v4 v5 d) 110 [(0, .ref 86), (1, .int v1), (2, .int v2), (3, .int v3), (4, .int v4), (5, .int v5)] [] d) (k138 : Int32 → Int32 → Int32 → Int32 → Int32 → Int32 → DD → Option (Int64 × DD)) (hk138 : ∀ (v1 : Int32) (v2 : Int32) (v3 : Int32) (v4 : Int32) (v5 : Int32) (v6 : Int32) (d : DD), AW E si_X10_bet 0 0 (QM E wrL) (k138 v1 v2 v3 v4 v5 v6 d) 138 [(0, .ref 86), (1, .int v1), (2, .int v2), (3, .int v3), (4, .int v4), (5, .int v5), (6, .int v6)] [] d) (v1 : Int32) (v2 : Int32) (v3 : Int32) (v4 : Int32) (v5 : Int32) (v6 : Int32) (d : DD) : AW E si_X10_bet 0 0 (QM E wrL) (f_X10_bet_138B k41 k110 k138 v1 v2 v3 v4 v5 v6 d) 138 [(0, .ref 86), (1, .int v1), (2, .int v2), (3, .int v3), (4, .int v4), (5, .int v5), (6, .int v6)] [] d := by
  unfold f_X10_bet_138B
  refine r_iload_w_6 dX10_bet_138 ?_
  refine r_aload_n_0 dX10_bet_140 rfl ?_
  refine r_getr (t := 95) (cc := 10) 22 rfl rfl uX10 (by decide) rfl fw_X10_64 rfl dX10_bet_141 ?_
  refine r_iload_w_5 dX10_bet_144 ?_
  refine r_iaload rfl dX10_bet_146 ?_
  refine r_icmp_ge (tgt := 194) dX10_bet_147 (by decide) ?_ ?_
  · refine r_iinc_5 dX10_bet_194 ki_1 (by decide) rfl ?_
    refine r_goto (tgt := 110) dX10_bet_197 (by decide) ?_
    refine r_sub [0, 1, 2, 3, 4, 5] (lv' := [(0, .ref 86), (1, .int v1), (2, .int v2), (3, .int v3), (4, .int v4), (5, .int (v5 + (1 : Int32)))]) rfl ?_
    exact hk110 v1 v2 v3 v4 (v5 + (1 : Int32)) d
  · refine r_aload_n_0 dX10_bet_150 rfl ?_
    refine r_getr (t := 99) (cc := 10) 27 rfl rfl uX10 (by decide) rfl fw_X10_76 rfl dX10_bet_151 ?_
    refine r_bipush dX10_bet_154 kb_30 ?_
    refine r_iload_w_5 dX10_bet_156 ?_
    refine r_imul dX10_bet_158 ?_
    refine r_iload_w_4 dX10_bet_159 ?_
    refine r_iadd dX10_bet_161 ?_
    refine r_dup2ia dX10_bet_162 ?_
    refine r_laload rfl dX10_bet_163 ?_
    refine r_aload_n_0 dX10_bet_164 rfl ?_
    refine r_iload_w_5 dX10_bet_165 ?_
    refine r_iload_w_6 dX10_bet_167 ?_
    refine r_iload_n_2 dX10_bet_169 rfl ?_
    refine r_callVI (cc := 10) [.long (d.2 99 (((30 : Int32) * v5) + v4).toNatClampNeg), .int (((30 : Int32) * v5) + v4), .ref 99] (am_X10_nextHour v5 v6 v2 d) rfl rfl cf_X10_nextHour mw_X10_308 (by decide) dX10_bet_170 rfl (Nat.le_of_ble_eq_true rfl) ⟨rfl, rfl⟩ (fun q18 => ?_)
    refine r_iload_w_4 dX10_bet_173 ?_
    refine r_icmp_le (tgt := 185) dX10_bet_175 (by decide) ?_ ?_
    · refine r_lconst dX10_bet_185 kl_0 ?_
      refine r_lor dX10_bet_186 ?_
      refine r_lastore rfl dX10_bet_187 ?_
      refine r_bd (fun d19 => ?_)
      refine r_iinc_6 dX10_bet_188 ki_1 (by decide) rfl ?_
      refine r_goto (tgt := 138) dX10_bet_191 (by decide) ?_
      exact hk138 v1 v2 v3 v4 v5 (v6 + (1 : Int32)) d19
    · refine r_lconst dX10_bet_178 kl_1 ?_
      refine r_iload_w_6 dX10_bet_179 ?_
      refine r_lshl dX10_bet_181 ?_
      refine r_goto (tgt := 186) dX10_bet_182 (by decide) ?_
      refine r_lor dX10_bet_186 ?_
      refine r_lastore rfl dX10_bet_187 ?_
      refine r_bd (fun d20 => ?_)
      refine r_iinc_6 dX10_bet_188 ki_1 (by decide) rfl ?_
      refine r_goto (tgt := 138) dX10_bet_191 (by decide) ?_
      exact hk138 v1 v2 v3 v4 v5 (v6 + (1 : Int32)) d20
theorem w_X10_bet_138 {E : XE} (k41 : Int32 → Int32 → Int32 → Int32 → DD → Option (Int64 × DD)) (hk41 : ∀ (v1 : Int32) (v2 : Int32) (v3 : Int32) (v4 : Int32) (d : DD), AW E si_X10_bet 0 0 (QM E wrL) (k41 v1 v2 v3 v4 d) 41 [(0, .ref 86), (1, .int v1), (2, .int v2), (3, .int v3), (4, .int v4)] [] d) (k110 : Int32 → Int32 → Int32 → Int32 → Int32 → DD → Option (Int64 × DD)) (hk110 : ∀ (v1 : Int32) (v2 : Int32) (v3 : Int32) (v4 : Int32) (v5 : Int32) (d : DD), AW E si_X10_bet 0 0 (QM E wrL) (k110 v1 v2 v3 v4 v5 d) 110 [(0, .ref 86), (1, .int v1), (2, .int v2), (3, .int v3), (4, .int v4), (5, .int v5)] [] d) (n : Nat) : ∀ (v1 : Int32) (v2 : Int32) (v3 : Int32) (v4 : Int32) (v5 : Int32) (v6 : Int32) (d : DD), AW E si_X10_bet 0 0 (QM E wrL) (f_X10_bet_138 k41 k110 n v1 v2 v3 v4 v5 v6 d) 138 [(0, .ref 86), (1, .int v1), (2, .int v2), (3, .int v3), (4, .int v4), (5, .int v5), (6, .int v6)] [] d := by
  induction n with
  | zero => intros; exact r_none
  | succ n ih => intro v1 v2 v3 v4 v5 v6 d; exact w_X10_bet_138B k41 hk41 k110 hk110 (f_X10_bet_138 k41 k110 n) ih v1 v2 v3 v4 v5 v6 d
def f_X10_bet_110B (k41 : Int32 → Int32 → Int32 → Int32 → DD → Option (Int64 × DD)) (k110 : Int32 → Int32 → Int32 → Int32 → Int32 → DD → Option (Int64 × DD)) (v1 : Int32) (v2 : Int32) (v3 : Int32) (v4 : Int32) (v5 : Int32) (d : DD) : Option (Int64 × DD) :=
  if ixb (0 : Int32) (ln 88) then
  if v5 < (d.1 88 (0 : Int32).toNatClampNeg) then
    if ixb (((30 : Int32) * v5) + v4) (ln 99) then
      bd (u2 d 99 (((30 : Int32) * v5) + v4).toNatClampNeg (0 : Int64)) fun d17 =>
      f_X10_bet_138 k41 k110 FU v1 v2 v3 v4 v5 (0 : Int32) d17
      else none
    else
    k41 v1 v2 v3 (v4 + (1 : Int32)) d
  else none
def f_X10_bet_110 (k41 : Int32 → Int32 → Int32 → Int32 → DD → Option (Int64 × DD)) : Nat → Int32 → Int32 → Int32 → Int32 → Int32 → DD → Option (Int64 × DD)
  | 0, _, _, _, _, _, _ => none
  | n + 1, v1, v2, v3, v4, v5, d => f_X10_bet_110B k41 (f_X10_bet_110 k41 n) v1 v2 v3 v4 v5 d
set_option maxRecDepth 100000 in
set_option maxHeartbeats 4000000 in
theorem w_X10_bet_110B {E : XE} (k41 : Int32 → Int32 → Int32 → Int32 → DD → Option (Int64 × DD)) (hk41 : ∀ (v1 : Int32) (v2 : Int32) (v3 : Int32) (v4 : Int32) (d : DD), AW E si_X10_bet 0 0 (QM E wrL) (k41 v1 v2 v3 v4 d) 41 [(0, .ref 86), (1, .int v1), (2, .int v2), (3, .int v3), (4, .int v4)] [] d) (k110 : Int32 → Int32 → Int32 → Int32 → Int32 → DD → Option (Int64 × DD)) (hk110 : ∀ (v1 : Int32) (v2 : Int32) (v3 : Int32) (v4 : Int32) (v5 : Int32) (d : DD), AW E si_X10_bet 0 0 (QM E wrL) (k110 v1 v2 v3 v4 v5 d) 110 [(0, .ref 86), (1, .int v1), (2, .int v2), (3, .int v3), (4, .int v4), (5, .int v5)] [] d) (v1 : Int32) (v2 : Int32) (v3 : Int32) (v4 : Int32) (v5 : Int32) (d : DD) : AW E si_X10_bet 0 0 (QM E wrL) (f_X10_bet_110B k41 k110 v1 v2 v3 v4 v5 d) 110 [(0, .ref 86), (1, .int v1), (2, .int v2), (3, .int v3), (4, .int v4), (5, .int v5)] [] d := by
  unfold f_X10_bet_110B
  refine r_iload_w_5 dX10_bet_110 ?_
  refine r_aload_n_0 dX10_bet_112 rfl ?_
  refine r_getr (t := 88) (cc := 10) 6 rfl rfl uX10 (by decide) rfl fw_X10_41 rfl dX10_bet_113 ?_
  refine r_iconst dX10_bet_116 ki_0 ?_
  refine r_iaload rfl dX10_bet_117 ?_
  refine r_icmp_ge (tgt := 200) dX10_bet_118 (by decide) ?_ ?_
  · refine r_iinc_4 dX10_bet_200 ki_1 (by decide) rfl ?_
    refine r_goto (tgt := 41) dX10_bet_203 (by decide) ?_
    refine r_sub [0, 1, 2, 3, 4] (lv' := [(0, .ref 86), (1, .int v1), (2, .int v2), (3, .int v3), (4, .int (v4 + (1 : Int32)))]) rfl ?_
    exact hk41 v1 v2 v3 (v4 + (1 : Int32)) d
  · refine r_aload_n_0 dX10_bet_121 rfl ?_
    refine r_getr (t := 99) (cc := 10) 27 rfl rfl uX10 (by decide) rfl fw_X10_76 rfl dX10_bet_122 ?_
    refine r_bipush dX10_bet_125 kb_30 ?_
    refine r_iload_w_5 dX10_bet_127 ?_
    refine r_imul dX10_bet_129 ?_
    refine r_iload_w_4 dX10_bet_130 ?_
    refine r_iadd dX10_bet_132 ?_
    refine r_lconst dX10_bet_133 kl_0 ?_
    refine r_lastore rfl dX10_bet_134 ?_
    refine r_bd (fun d17 => ?_)
    refine r_iconst dX10_bet_135 ki_0 ?_
    refine r_istore_w_x dX10_bet_136 (by decide) rfl ?_
    refine r_sub [1, 2, 3, 4, 5, 6, 0] (lv' := [(0, .ref 86), (1, .int v1), (2, .int v2), (3, .int v3), (4, .int v4), (5, .int v5), (6, .int (0 : Int32))]) rfl ?_
    exact w_X10_bet_138 k41 hk41 k110 hk110 FU v1 v2 v3 v4 v5 (0 : Int32) d17
theorem w_X10_bet_110 {E : XE} (k41 : Int32 → Int32 → Int32 → Int32 → DD → Option (Int64 × DD)) (hk41 : ∀ (v1 : Int32) (v2 : Int32) (v3 : Int32) (v4 : Int32) (d : DD), AW E si_X10_bet 0 0 (QM E wrL) (k41 v1 v2 v3 v4 d) 41 [(0, .ref 86), (1, .int v1), (2, .int v2), (3, .int v3), (4, .int v4)] [] d) (n : Nat) : ∀ (v1 : Int32) (v2 : Int32) (v3 : Int32) (v4 : Int32) (v5 : Int32) (d : DD), AW E si_X10_bet 0 0 (QM E wrL) (f_X10_bet_110 k41 n v1 v2 v3 v4 v5 d) 110 [(0, .ref 86), (1, .int v1), (2, .int v2), (3, .int v3), (4, .int v4), (5, .int v5)] [] d := by
  induction n with
  | zero => intros; exact r_none
  | succ n ih => intro v1 v2 v3 v4 v5 d; exact w_X10_bet_110B k41 hk41 (f_X10_bet_110 k41 n) ih v1 v2 v3 v4 v5 d
def f_X10_bet_59B (k41 : Int32 → Int32 → Int32 → Int32 → DD → Option (Int64 × DD)) (k59 : Int32 → Int32 → Int32 → Int32 → Int32 → DD → Option (Int64 × DD)) (v1 : Int32) (v2 : Int32) (v3 : Int32) (v4 : Int32) (v5 : Int32) (d : DD) : Option (Int64 × DD) :=
  if ixb v1 (ln 95) then
  if v5 < (d.1 95 v1.toNatClampNeg) then
    if ixb v4 (ln 100) then
      (f_X10_nextHour v1 v5 v2 d).bind fun q21 =>
        if q21.1 = v4 then
        if ixb v4 (ln 100) then
          bd (u2 q21.2 100 v4.toNatClampNeg ((d.2 100 v4.toNatClampNeg) ||| ((1 : Int64) <<< (v5.toInt64 &&& 63)))) fun d23 =>
          k59 v1 v2 v3 v4 (v5 + (1 : Int32)) d23
          else none
        else
        if ixb v4 (ln 100) then
          bd (u2 q21.2 100 v4.toNatClampNeg ((d.2 100 v4.toNatClampNeg) ||| (0 : Int64))) fun d22 =>
          k59 v1 v2 v3 v4 (v5 + (1 : Int32)) d22
          else none
      else none
    else
    f_X10_bet_110 k41 FU v1 v2 v3 v4 (0 : Int32) d
  else none
def f_X10_bet_59 (k41 : Int32 → Int32 → Int32 → Int32 → DD → Option (Int64 × DD)) : Nat → Int32 → Int32 → Int32 → Int32 → Int32 → DD → Option (Int64 × DD)
  | 0, _, _, _, _, _, _ => none
  | n + 1, v1, v2, v3, v4, v5, d => f_X10_bet_59B k41 (f_X10_bet_59 k41 n) v1 v2 v3 v4 v5 d
set_option maxRecDepth 100000 in
set_option maxHeartbeats 4000000 in
theorem w_X10_bet_59B {E : XE} (k41 : Int32 → Int32 → Int32 → Int32 → DD → Option (Int64 × DD)) (hk41 : ∀ (v1 : Int32) (v2 : Int32) (v3 : Int32) (v4 : Int32) (d : DD), AW E si_X10_bet 0 0 (QM E wrL) (k41 v1 v2 v3 v4 d) 41 [(0, .ref 86), (1, .int v1), (2, .int v2), (3, .int v3), (4, .int v4)] [] d) (k59 : Int32 → Int32 → Int32 → Int32 → Int32 → DD → Option (Int64 × DD)) (hk59 : ∀ (v1 : Int32) (v2 : Int32) (v3 : Int32) (v4 : Int32) (v5 : Int32) (d : DD), AW E si_X10_bet 0 0 (QM E wrL) (k59 v1 v2 v3 v4 v5 d) 59 [(0, .ref 86), (1, .int v1), (2, .int v2), (3, .int v3), (4, .int v4), (5, .int v5)] [] d) (v1 : Int32) (v2 : Int32) (v3 : Int32) (v4 : Int32) (v5 : Int32) (d : DD) : AW E si_X10_bet 0 0 (QM E wrL) (f_X10_bet_59B k41 k59 v1 v2 v3 v4 v5 d) 59 [(0, .ref 86), (1, .int v1), (2, .int v2), (3, .int v3), (4, .int v4), (5, .int v5)] [] d := by
  unfold f_X10_bet_59B
  refine r_iload_w_5 dX10_bet_59 ?_
  refine r_aload_n_0 dX10_bet_61 rfl ?_
  refine r_getr (t := 95) (cc := 10) 22 rfl rfl uX10 (by decide) rfl fw_X10_64 rfl dX10_bet_62 ?_
  refine r_iload_n_1 dX10_bet_65 rfl ?_
  refine r_iaload rfl dX10_bet_66 ?_
  refine r_icmp_ge (tgt := 107) dX10_bet_67 (by decide) ?_ ?_
  · refine r_iconst dX10_bet_107 ki_0 ?_
    refine r_istore_w_5 dX10_bet_108 (by decide) rfl ?_
    exact w_X10_bet_110 k41 hk41 FU v1 v2 v3 v4 (0 : Int32) d
  · refine r_aload_n_0 dX10_bet_70 rfl ?_
    refine r_getr (t := 100) (cc := 10) 28 rfl rfl uX10 (by decide) rfl fw_X10_79 rfl dX10_bet_71 ?_
    refine r_iload_w_4 dX10_bet_74 ?_
    refine r_dup2ia dX10_bet_76 ?_
    refine r_laload rfl dX10_bet_77 ?_
    refine r_aload_n_0 dX10_bet_78 rfl ?_
    refine r_iload_n_1 dX10_bet_79 rfl ?_
    refine r_iload_w_5 dX10_bet_80 ?_
    refine r_iload_n_2 dX10_bet_82 rfl ?_
    refine r_callVI (cc := 10) [.long (d.2 100 v4.toNatClampNeg), .int v4, .ref 100] (am_X10_nextHour v1 v5 v2 d) rfl rfl cf_X10_nextHour mw_X10_308 (by decide) dX10_bet_83 rfl (Nat.le_of_ble_eq_true rfl) ⟨rfl, rfl⟩ (fun q21 => ?_)
    refine r_iload_w_4 dX10_bet_86 ?_
    refine r_icmp_ne (tgt := 98) dX10_bet_88 (by decide) ?_ ?_
    · refine r_lconst dX10_bet_98 kl_0 ?_
      refine r_lor dX10_bet_99 ?_
      refine r_lastore rfl dX10_bet_100 ?_
      refine r_bd (fun d22 => ?_)
      refine r_iinc_5 dX10_bet_101 ki_1 (by decide) rfl ?_
      refine r_goto (tgt := 59) dX10_bet_104 (by decide) ?_
      exact hk59 v1 v2 v3 v4 (v5 + (1 : Int32)) d22
    · refine r_lconst dX10_bet_91 kl_1 ?_
      refine r_iload_w_5 dX10_bet_92 ?_
      refine r_lshl dX10_bet_94 ?_
      refine r_goto (tgt := 99) dX10_bet_95 (by decide) ?_
      refine r_lor dX10_bet_99 ?_
      refine r_lastore rfl dX10_bet_100 ?_
      refine r_bd (fun d23 => ?_)
      refine r_iinc_5 dX10_bet_101 ki_1 (by decide) rfl ?_
      refine r_goto (tgt := 59) dX10_bet_104 (by decide) ?_
      exact hk59 v1 v2 v3 v4 (v5 + (1 : Int32)) d23
theorem w_X10_bet_59 {E : XE} (k41 : Int32 → Int32 → Int32 → Int32 → DD → Option (Int64 × DD)) (hk41 : ∀ (v1 : Int32) (v2 : Int32) (v3 : Int32) (v4 : Int32) (d : DD), AW E si_X10_bet 0 0 (QM E wrL) (k41 v1 v2 v3 v4 d) 41 [(0, .ref 86), (1, .int v1), (2, .int v2), (3, .int v3), (4, .int v4)] [] d) (n : Nat) : ∀ (v1 : Int32) (v2 : Int32) (v3 : Int32) (v4 : Int32) (v5 : Int32) (d : DD), AW E si_X10_bet 0 0 (QM E wrL) (f_X10_bet_59 k41 n v1 v2 v3 v4 v5 d) 59 [(0, .ref 86), (1, .int v1), (2, .int v2), (3, .int v3), (4, .int v4), (5, .int v5)] [] d := by
  induction n with
  | zero => intros; exact r_none
  | succ n ih => intro v1 v2 v3 v4 v5 d; exact w_X10_bet_59B k41 hk41 (f_X10_bet_59 k41 n) ih v1 v2 v3 v4 v5 d
def f_X10_bet_41B (k41 : Int32 → Int32 → Int32 → Int32 → DD → Option (Int64 × DD)) (v1 : Int32) (v2 : Int32) (v3 : Int32) (v4 : Int32) (d : DD) : Option (Int64 × DD) :=
  if v4 < (30 : Int32) then
  if ixb v4 (ln 100) then
    bd (u2 d 100 v4.toNatClampNeg (0 : Int64)) fun d16 =>
    f_X10_bet_59 k41 FU v1 v2 v3 v4 (0 : Int32) d16
    else none
  else
  if ixb (169 : Int32) (ln 88) then
    (f_X10_worldsBy (d.1 88 (169 : Int32).toNatClampNeg) d).bind fun q3 =>
      (f_X10_firstWays q3.2).bind fun q4 =>
      f_X10_bet_227 FU v1 v2 v3 q3.1 (0 : Int64) q4.2
    else none
def f_X10_bet_41 : Nat → Int32 → Int32 → Int32 → Int32 → DD → Option (Int64 × DD)
  | 0, _, _, _, _, _ => none
  | n + 1, v1, v2, v3, v4, d => f_X10_bet_41B (f_X10_bet_41 n) v1 v2 v3 v4 d
set_option maxRecDepth 100000 in
set_option maxHeartbeats 4000000 in
theorem w_X10_bet_41B {E : XE} (k41 : Int32 → Int32 → Int32 → Int32 → DD → Option (Int64 × DD)) (hk41 : ∀ (v1 : Int32) (v2 : Int32) (v3 : Int32) (v4 : Int32) (d : DD), AW E si_X10_bet 0 0 (QM E wrL) (k41 v1 v2 v3 v4 d) 41 [(0, .ref 86), (1, .int v1), (2, .int v2), (3, .int v3), (4, .int v4)] [] d) (v1 : Int32) (v2 : Int32) (v3 : Int32) (v4 : Int32) (d : DD) : AW E si_X10_bet 0 0 (QM E wrL) (f_X10_bet_41B k41 v1 v2 v3 v4 d) 41 [(0, .ref 86), (1, .int v1), (2, .int v2), (3, .int v3), (4, .int v4)] [] d := by
  unfold f_X10_bet_41B
  refine r_iload_w_4 dX10_bet_41 ?_
  refine r_bipush dX10_bet_43 kb_30 ?_
  refine r_icmp_ge (tgt := 206) dX10_bet_45 (by decide) ?_ ?_
  · refine r_aload_n_0 dX10_bet_206 rfl ?_
    refine r_aload_n_0 dX10_bet_207 rfl ?_
    refine r_getr (t := 88) (cc := 10) 6 rfl rfl uX10 (by decide) rfl fw_X10_41 rfl dX10_bet_208 ?_
    refine r_sipush dX10_bet_211 ks_169 ?_
    refine r_iaload rfl dX10_bet_214 ?_
    refine r_callVL (cc := 10) [] (am_X10_worldsBy (d.1 88 (169 : Int32).toNatClampNeg) d) rfl rfl cf_X10_worldsBy mw_X10_283 (by decide) dX10_bet_215 rfl (Nat.le_of_ble_eq_true rfl) ⟨rfl, rfl⟩ (fun q3 => ?_)
    refine r_lstore_w_4 dX10_bet_218 (by decide) rfl ?_
    refine r_lconst dX10_bet_220 kl_0 ?_
    refine r_lstore_w_x dX10_bet_221 (by decide) rfl ?_
    refine r_aload_n_1 dX10_bet_223 rfl ?_
    refine r_callVU (cc := 10) [] (am_X10_firstWays q3.2) rfl rfl cf_X10_firstWays mw_X10_273 (by decide) dX10_bet_224 rfl (Nat.le_of_ble_eq_true rfl) ⟨rfl, rfl⟩ (fun q4 => ?_)
    refine r_sub [1, 2, 3, 4, 5, 0] (lv' := [(0, .ref 86), (1, .int v1), (2, .int v2), (3, .int v3), (4, .long q3.1), (6, .long (0 : Int64))]) rfl ?_
    exact w_X10_bet_227 FU v1 v2 v3 q3.1 (0 : Int64) q4.2
  · refine r_aload_n_0 dX10_bet_48 rfl ?_
    refine r_getr (t := 100) (cc := 10) 28 rfl rfl uX10 (by decide) rfl fw_X10_79 rfl dX10_bet_49 ?_
    refine r_iload_w_4 dX10_bet_52 ?_
    refine r_lconst dX10_bet_54 kl_0 ?_
    refine r_lastore rfl dX10_bet_55 ?_
    refine r_bd (fun d16 => ?_)
    refine r_iconst dX10_bet_56 ki_0 ?_
    refine r_istore_w_x dX10_bet_57 (by decide) rfl ?_
    refine r_sub [1, 2, 3, 4, 5, 0] (lv' := [(0, .ref 86), (1, .int v1), (2, .int v2), (3, .int v3), (4, .int v4), (5, .int (0 : Int32))]) rfl ?_
    exact w_X10_bet_59 k41 hk41 FU v1 v2 v3 v4 (0 : Int32) d16
theorem w_X10_bet_41 {E : XE} (n : Nat) : ∀ (v1 : Int32) (v2 : Int32) (v3 : Int32) (v4 : Int32) (d : DD), AW E si_X10_bet 0 0 (QM E wrL) (f_X10_bet_41 n v1 v2 v3 v4 d) 41 [(0, .ref 86), (1, .int v1), (2, .int v2), (3, .int v3), (4, .int v4)] [] d := by
  induction n with
  | zero => intros; exact r_none
  | succ n ih => intro v1 v2 v3 v4 d; exact w_X10_bet_41B (f_X10_bet_41 n) ih v1 v2 v3 v4 d
def f_X10_bet (p1 : Int32) (p2 : Int32) (p3 : Int32) (d : DD) : Option (Int64 × DD) :=
  (f_X10_isKind p1 d).bind fun q1 =>
  if q1.1 = 0 then
  (f_X10_throwsIf (1 : Int32) q1.2).bind fun q2 =>
    if q2.1 = 0 then
    f_X10_bet_41 FU p1 p2 p3 (0 : Int32) q2.2
    else
    some ((0 : Int64), q2.2)
  else
  (f_X10_isHour p2 q1.2).bind fun q24 =>
    if q24.1 = 0 then
    (f_X10_throwsIf (1 : Int32) q24.2).bind fun q25 =>
      if q25.1 = 0 then
      f_X10_bet_41 FU p1 p2 p3 (0 : Int32) q25.2
      else
      some ((0 : Int64), q25.2)
    else
    (f_X10_isIn p3 (0 : Int32) (1 : Int32) q24.2).bind fun q26 =>
      if q26.1 = 0 then
      (f_X10_throwsIf (1 : Int32) q26.2).bind fun q28 =>
        if q28.1 = 0 then
        f_X10_bet_41 FU p1 p2 p3 (0 : Int32) q28.2
        else
        some ((0 : Int64), q28.2)
      else
      (f_X10_throwsIf (0 : Int32) q26.2).bind fun q27 =>
        if q27.1 = 0 then
        f_X10_bet_41 FU p1 p2 p3 (0 : Int32) q27.2
        else
        some ((0 : Int64), q27.2)
set_option maxRecDepth 100000 in
set_option maxHeartbeats 4000000 in
theorem am_X10_bet (p1 : Int32) (p2 : Int32) (p3 : Int32) (d : DD) : AM wrL mi_X10_bet 4 101 [.ref 86, .int p1, .int p2, .int p3] d (f_X10_bet p1 p2 p3 d) := by
  refine AM_intro (si := si_X10_bet) (lv := [(0, .ref 86), (1, .int p1), (2, .int p2), (3, .int p3)]) rfl (by decide +kernel) rfl (Nat.le_of_ble_eq_true rfl) (fun E => ?_)
  unfold f_X10_bet
  refine r_aload_n_0 dX10_bet_0 rfl ?_
  refine r_aload_n_0 dX10_bet_1 rfl ?_
  refine r_iload_n_1 dX10_bet_2 rfl ?_
  refine r_callVI (cc := 10) [.ref 86] (am_X10_isKind p1 d) rfl rfl cf_X10_isKind mw_X10_234 (by decide) dX10_bet_3 rfl (Nat.le_of_ble_eq_true rfl) ⟨rfl, rfl⟩ (fun q1 => ?_)
  refine r_if_eq (tgt := 25) dX10_bet_6 (by decide) ?_ ?_
  · refine r_iconst dX10_bet_25 ki_1 ?_
    refine r_goto (tgt := 30) dX10_bet_26 (by decide) ?_
    refine r_callVI (cc := 10) [] (am_X10_throwsIf (1 : Int32) q1.2) rfl rfl cf_X10_throwsIf mw_X10_237 (by decide) dX10_bet_30 rfl (Nat.le_of_ble_eq_true rfl) ⟨rfl, rfl⟩ (fun q2 => ?_)
    refine r_if_eq (tgt := 38) dX10_bet_33 (by decide) ?_ ?_
    · refine r_iconst dX10_bet_38 ki_0 ?_
      refine r_istore_w_x dX10_bet_39 (by decide) rfl ?_
      refine r_sub [1, 2, 3, 4, 0] (lv' := [(0, .ref 86), (1, .int p1), (2, .int p2), (3, .int p3), (4, .int (0 : Int32))]) rfl ?_
      exact w_X10_bet_41 FU p1 p2 p3 (0 : Int32) q2.2
    · refine r_lconst dX10_bet_36 kl_0 ?_
      exact r_lreturn dX10_bet_37 rfl
  · refine r_iload_n_2 dX10_bet_9 rfl ?_
    refine r_callSI [.ref 86] (am_X10_isHour p2 q1.2) cf_X10_isHour mw_X10_245 (by decide) dX10_bet_10 rfl (Nat.le_of_ble_eq_true rfl) ⟨rfl, rfl⟩ (fun q24 => ?_)
    refine r_if_eq (tgt := 25) dX10_bet_13 (by decide) ?_ ?_
    · refine r_iconst dX10_bet_25 ki_1 ?_
      refine r_goto (tgt := 30) dX10_bet_26 (by decide) ?_
      refine r_callVI (cc := 10) [] (am_X10_throwsIf (1 : Int32) q24.2) rfl rfl cf_X10_throwsIf mw_X10_237 (by decide) dX10_bet_30 rfl (Nat.le_of_ble_eq_true rfl) ⟨rfl, rfl⟩ (fun q25 => ?_)
      refine r_if_eq (tgt := 38) dX10_bet_33 (by decide) ?_ ?_
      · refine r_iconst dX10_bet_38 ki_0 ?_
        refine r_istore_w_x dX10_bet_39 (by decide) rfl ?_
        refine r_sub [1, 2, 3, 4, 0] (lv' := [(0, .ref 86), (1, .int p1), (2, .int p2), (3, .int p3), (4, .int (0 : Int32))]) rfl ?_
        exact w_X10_bet_41 FU p1 p2 p3 (0 : Int32) q25.2
      · refine r_lconst dX10_bet_36 kl_0 ?_
        exact r_lreturn dX10_bet_37 rfl
    · refine r_iload_n_3 dX10_bet_16 rfl ?_
      refine r_iconst dX10_bet_17 ki_0 ?_
      refine r_iconst dX10_bet_18 ki_1 ?_
      refine r_callSI [.ref 86] (am_X10_isIn p3 (0 : Int32) (1 : Int32) q24.2) cf_X10_isIn mw_X10_172 (by decide) dX10_bet_19 rfl (Nat.le_of_ble_eq_true rfl) ⟨rfl, rfl⟩ (fun q26 => ?_)
      refine r_if_ne (tgt := 29) dX10_bet_22 (by decide) ?_ ?_
      · refine r_iconst dX10_bet_29 ki_0 ?_
        refine r_callVI (cc := 10) [] (am_X10_throwsIf (0 : Int32) q26.2) rfl rfl cf_X10_throwsIf mw_X10_237 (by decide) dX10_bet_30 rfl (Nat.le_of_ble_eq_true rfl) ⟨rfl, rfl⟩ (fun q27 => ?_)
        refine r_if_eq (tgt := 38) dX10_bet_33 (by decide) ?_ ?_
        · refine r_iconst dX10_bet_38 ki_0 ?_
          refine r_istore_w_x dX10_bet_39 (by decide) rfl ?_
          refine r_sub [1, 2, 3, 4, 0] (lv' := [(0, .ref 86), (1, .int p1), (2, .int p2), (3, .int p3), (4, .int (0 : Int32))]) rfl ?_
          exact w_X10_bet_41 FU p1 p2 p3 (0 : Int32) q27.2
        · refine r_lconst dX10_bet_36 kl_0 ?_
          exact r_lreturn dX10_bet_37 rfl
      · refine r_iconst dX10_bet_25 ki_1 ?_
        refine r_goto (tgt := 30) dX10_bet_26 (by decide) ?_
        refine r_callVI (cc := 10) [] (am_X10_throwsIf (1 : Int32) q26.2) rfl rfl cf_X10_throwsIf mw_X10_237 (by decide) dX10_bet_30 rfl (Nat.le_of_ble_eq_true rfl) ⟨rfl, rfl⟩ (fun q28 => ?_)
        refine r_if_eq (tgt := 38) dX10_bet_33 (by decide) ?_ ?_
        · refine r_iconst dX10_bet_38 ki_0 ?_
          refine r_istore_w_x dX10_bet_39 (by decide) rfl ?_
          refine r_sub [1, 2, 3, 4, 0] (lv' := [(0, .ref 86), (1, .int p1), (2, .int p2), (3, .int p3), (4, .int (0 : Int32))]) rfl ?_
          exact w_X10_bet_41 FU p1 p2 p3 (0 : Int32) q28.2
        · refine r_lconst dX10_bet_36 kl_0 ?_
          exact r_lreturn dX10_bet_37 rfl
theorem cf_X10_bet : CFv mi_X10_bet 3 := ⟨iw_X10_bet, vw_X10_bet, nw_X10, cw_X10_bet, by unfold plainF; decide +kernel⟩
