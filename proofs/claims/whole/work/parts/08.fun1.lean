abbrev si_J6_bitCount_0f7a4 : SI := (cJ6_bitCount_0f7a4, RJ6, 1, (some .int), 0, 0)
def f_J6_bitCount_0f7a4 (p0 : Int32) (d : DD) : Option (Int32 × DD) :=
  bd (p0 - ((iushr p0 (1 : Int32)) &&& (1431655765 : Int32))) fun x1 =>
  bd ((x1 &&& (858993459 : Int32)) + ((iushr x1 (2 : Int32)) &&& (858993459 : Int32))) fun x2 =>
  bd ((x2 + (iushr x2 (4 : Int32))) &&& (252645135 : Int32)) fun x3 =>
  bd (x3 + (iushr x3 (8 : Int32))) fun x4 =>
  bd (x4 + (iushr x4 (16 : Int32))) fun x5 =>
  some (x5 &&& (63 : Int32), d)
set_option maxRecDepth 100000 in
set_option maxHeartbeats 4000000 in
theorem am_J6_bitCount_0f7a4 (p0 : Int32) (d : DD) : AM wrI mi_J6_bitCount_0f7a4 0 0 [.int p0] d (f_J6_bitCount_0f7a4 p0 d) := by
  refine AM_intro (si := si_J6_bitCount_0f7a4) (lv := [(0, .int p0)]) rfl (by decide +kernel) rfl (Nat.le_of_ble_eq_true rfl) (fun E => ?_)
  unfold f_J6_bitCount_0f7a4
  refine r_iload_n_0 dJ6_bitCount_0f7a4_0 rfl ?_
  refine r_iload_n_0 dJ6_bitCount_0f7a4_1 rfl ?_
  refine r_iconst dJ6_bitCount_0f7a4_2 ki_1 ?_
  refine r_iushr dJ6_bitCount_0f7a4_3 ?_
  refine r_ldcw dJ6_bitCount_0f7a4_4 kw_J6_265 ?_
  refine r_iand dJ6_bitCount_0f7a4_7 ?_
  refine r_isub dJ6_bitCount_0f7a4_8 ?_
  refine r_bdI (fun x1 => ?_)
  refine r_istore_n_0 dJ6_bitCount_0f7a4_9 rfl (by decide) rfl ?_
  refine r_iload_n_0 dJ6_bitCount_0f7a4_10 rfl ?_
  refine r_ldcw dJ6_bitCount_0f7a4_11 kw_J6_266 ?_
  refine r_iand dJ6_bitCount_0f7a4_14 ?_
  refine r_iload_n_0 dJ6_bitCount_0f7a4_15 rfl ?_
  refine r_iconst dJ6_bitCount_0f7a4_16 ki_2 ?_
  refine r_iushr dJ6_bitCount_0f7a4_17 ?_
  refine r_ldcw dJ6_bitCount_0f7a4_18 kw_J6_266 ?_
  refine r_iand dJ6_bitCount_0f7a4_21 ?_
  refine r_iadd dJ6_bitCount_0f7a4_22 ?_
  refine r_bdI (fun x2 => ?_)
  refine r_istore_n_0 dJ6_bitCount_0f7a4_23 rfl (by decide) rfl ?_
  refine r_iload_n_0 dJ6_bitCount_0f7a4_24 rfl ?_
  refine r_iload_n_0 dJ6_bitCount_0f7a4_25 rfl ?_
  refine r_iconst dJ6_bitCount_0f7a4_26 ki_4 ?_
  refine r_iushr dJ6_bitCount_0f7a4_27 ?_
  refine r_iadd dJ6_bitCount_0f7a4_28 ?_
  refine r_ldcw dJ6_bitCount_0f7a4_29 kw_J6_267 ?_
  refine r_iand dJ6_bitCount_0f7a4_32 ?_
  refine r_bdI (fun x3 => ?_)
  refine r_istore_n_0 dJ6_bitCount_0f7a4_33 rfl (by decide) rfl ?_
  refine r_iload_n_0 dJ6_bitCount_0f7a4_34 rfl ?_
  refine r_iload_n_0 dJ6_bitCount_0f7a4_35 rfl ?_
  refine r_bipush dJ6_bitCount_0f7a4_36 kb_8 ?_
  refine r_iushr dJ6_bitCount_0f7a4_38 ?_
  refine r_iadd dJ6_bitCount_0f7a4_39 ?_
  refine r_bdI (fun x4 => ?_)
  refine r_istore_n_0 dJ6_bitCount_0f7a4_40 rfl (by decide) rfl ?_
  refine r_iload_n_0 dJ6_bitCount_0f7a4_41 rfl ?_
  refine r_iload_n_0 dJ6_bitCount_0f7a4_42 rfl ?_
  refine r_bipush dJ6_bitCount_0f7a4_43 kb_16 ?_
  refine r_iushr dJ6_bitCount_0f7a4_45 ?_
  refine r_iadd dJ6_bitCount_0f7a4_46 ?_
  refine r_bdI (fun x5 => ?_)
  refine r_istore_n_0 dJ6_bitCount_0f7a4_47 rfl (by decide) rfl ?_
  refine r_iload_n_0 dJ6_bitCount_0f7a4_48 rfl ?_
  refine r_bipush dJ6_bitCount_0f7a4_49 kb_63 ?_
  refine r_iand dJ6_bitCount_0f7a4_51 ?_
  exact r_ireturn dJ6_bitCount_0f7a4_52 rfl
theorem cf_J6_bitCount_0f7a4 : CFs mi_J6_bitCount_0f7a4 1 := ⟨sw_J6_bitCount_0f7a4, nw_J6, cw_J6_bitCount_0f7a4, by unfold plainF; decide +kernel⟩
abbrev si_J7_fill_53178 : SI := (cJ7_fill_53178, RJ7, 4, none, 0, 0)
def f_J7_fill_53178_5B (p0 : Nat) (k5 : Int32 → Int32 → Int32 → DD → Option (Unit × DD)) (v1 : Int32) (v2 : Int32) (v3 : Int32) (d : DD) : Option (Unit × DD) :=
  if v2 < v3 then
  if ixb v2 (ln p0) then
    bd (u1 d p0 v2.toNatClampNeg v1) fun d2 =>
    k5 v1 (v2 + (1 : Int32)) v3 d2
    else none
  else
  some ((), d)
def f_J7_fill_53178_5 (p0 : Nat) : Nat → Int32 → Int32 → Int32 → DD → Option (Unit × DD)
  | 0, _, _, _, _ => none
  | n + 1, v1, v2, v3, d => f_J7_fill_53178_5B p0 (f_J7_fill_53178_5 p0 n) v1 v2 v3 d
set_option maxRecDepth 100000 in
set_option maxHeartbeats 4000000 in
theorem w_J7_fill_53178_5B {E : XE} (p0 : Nat) (hp0 : kd p0 = 0) (k5 : Int32 → Int32 → Int32 → DD → Option (Unit × DD)) (hk5 : ∀ (v1 : Int32) (v2 : Int32) (v3 : Int32) (d : DD), AW E si_J7_fill_53178 0 0 (QM E wrU) (k5 v1 v2 v3 d) 5 [(0, .ref p0), (1, .int v1), (2, .int v2), (3, .int v3)] [] d) (v1 : Int32) (v2 : Int32) (v3 : Int32) (d : DD) : AW E si_J7_fill_53178 0 0 (QM E wrU) (f_J7_fill_53178_5B p0 k5 v1 v2 v3 d) 5 [(0, .ref p0), (1, .int v1), (2, .int v2), (3, .int v3)] [] d := by
  unfold f_J7_fill_53178_5B
  refine r_iload_n_2 dJ7_fill_53178_5 rfl ?_
  refine r_iload_n_3 dJ7_fill_53178_6 rfl ?_
  refine r_icmp_ge (tgt := 20) dJ7_fill_53178_7 (by decide) ?_ ?_
  · exact r_return dJ7_fill_53178_20 rfl
  · refine r_aload_n_0 dJ7_fill_53178_10 rfl ?_
    refine r_iload_n_2 dJ7_fill_53178_11 rfl ?_
    refine r_iload_n_1 dJ7_fill_53178_12 rfl ?_
    refine r_iastore hp0 dJ7_fill_53178_13 ?_
    refine r_bd (fun d2 => ?_)
    refine r_iinc_2 dJ7_fill_53178_14 ki_1 (by decide) rfl ?_
    refine r_goto (tgt := 5) dJ7_fill_53178_17 (by decide) ?_
    exact hk5 v1 (v2 + (1 : Int32)) v3 d2
theorem w_J7_fill_53178_5 {E : XE} (p0 : Nat) (hp0 : kd p0 = 0) (n : Nat) : ∀ (v1 : Int32) (v2 : Int32) (v3 : Int32) (d : DD), AW E si_J7_fill_53178 0 0 (QM E wrU) (f_J7_fill_53178_5 p0 n v1 v2 v3 d) 5 [(0, .ref p0), (1, .int v1), (2, .int v2), (3, .int v3)] [] d := by
  induction n with
  | zero => intros; exact r_none
  | succ n ih => intro v1 v2 v3 d; exact w_J7_fill_53178_5B p0 hp0 (f_J7_fill_53178_5 p0 n) ih v1 v2 v3 d
def f_J7_fill_53178 (p0 : Nat) (p1 : Int32) (d : DD) : Option (Unit × DD) :=
  bd (Int32.ofNat (ln p0)) fun x1 =>
  f_J7_fill_53178_5 p0 FU p1 (0 : Int32) x1 d
set_option maxRecDepth 100000 in
set_option maxHeartbeats 4000000 in
theorem am_J7_fill_53178 (p0 : Nat) (hp0 : kd p0 = 0) (p1 : Int32) (d : DD) : AM wrU mi_J7_fill_53178 0 0 [.ref p0, .int p1] d (f_J7_fill_53178 p0 p1 d) := by
  refine AM_intro (si := si_J7_fill_53178) (lv := [(0, .ref p0), (1, .int p1)]) rfl (by decide +kernel) rfl (Nat.le_of_ble_eq_true rfl) (fun E => ?_)
  unfold f_J7_fill_53178
  refine r_iconst dJ7_fill_53178_0 ki_0 ?_
  refine r_istore_n_x dJ7_fill_53178_1 rfl (by decide) rfl ?_
  refine r_aload_n_1 dJ7_fill_53178_2 rfl ?_
  refine r_aleni hp0 dJ7_fill_53178_3 ?_
  refine r_bdI (fun x1 => ?_)
  refine r_istore_n_x dJ7_fill_53178_4 rfl (by decide) rfl ?_
  refine r_sub [2, 3, 1, 0] (lv' := [(0, .ref p0), (1, .int p1), (2, .int (0 : Int32)), (3, .int x1)]) rfl ?_
  exact w_J7_fill_53178_5 p0 hp0 FU p1 (0 : Int32) x1 d
theorem cf_J7_fill_53178 : CFs mi_J7_fill_53178 2 := ⟨sw_J7_fill_53178, nw_J7, cw_J7_fill_53178, by unfold plainF; decide +kernel⟩
abbrev si_J7_fill_d0a16 : SI := (cJ7_fill_d0a16, RJ7, 5, none, 0, 0)
def f_J7_fill_d0a16_6B (p0 : Nat) (k6 : Int64 → Int32 → Int32 → DD → Option (Unit × DD)) (v1 : Int64) (v3 : Int32) (v4 : Int32) (d : DD) : Option (Unit × DD) :=
  if v3 < v4 then
  if ixb v3 (ln p0) then
    bd (u2 d p0 v3.toNatClampNeg v1) fun d2 =>
    k6 v1 (v3 + (1 : Int32)) v4 d2
    else none
  else
  some ((), d)
def f_J7_fill_d0a16_6 (p0 : Nat) : Nat → Int64 → Int32 → Int32 → DD → Option (Unit × DD)
  | 0, _, _, _, _ => none
  | n + 1, v1, v3, v4, d => f_J7_fill_d0a16_6B p0 (f_J7_fill_d0a16_6 p0 n) v1 v3 v4 d
set_option maxRecDepth 100000 in
set_option maxHeartbeats 4000000 in
theorem w_J7_fill_d0a16_6B {E : XE} (p0 : Nat) (hp0 : kd p0 = 1) (k6 : Int64 → Int32 → Int32 → DD → Option (Unit × DD)) (hk6 : ∀ (v1 : Int64) (v3 : Int32) (v4 : Int32) (d : DD), AW E si_J7_fill_d0a16 0 0 (QM E wrU) (k6 v1 v3 v4 d) 6 [(0, .ref p0), (1, .long v1), (3, .int v3), (4, .int v4)] [] d) (v1 : Int64) (v3 : Int32) (v4 : Int32) (d : DD) : AW E si_J7_fill_d0a16 0 0 (QM E wrU) (f_J7_fill_d0a16_6B p0 k6 v1 v3 v4 d) 6 [(0, .ref p0), (1, .long v1), (3, .int v3), (4, .int v4)] [] d := by
  unfold f_J7_fill_d0a16_6B
  refine r_iload_n_2 dJ7_fill_d0a16_6 rfl ?_
  refine r_iload_w_3 dJ7_fill_d0a16_7 ?_
  refine r_icmp_ge (tgt := 22) dJ7_fill_d0a16_9 (by decide) ?_ ?_
  · exact r_return dJ7_fill_d0a16_22 rfl
  · refine r_aload_n_0 dJ7_fill_d0a16_12 rfl ?_
    refine r_iload_n_2 dJ7_fill_d0a16_13 rfl ?_
    refine r_lload_n_1 dJ7_fill_d0a16_14 rfl ?_
    refine r_lastore hp0 dJ7_fill_d0a16_15 ?_
    refine r_bd (fun d2 => ?_)
    refine r_iinc_2 dJ7_fill_d0a16_16 ki_1 (by decide) rfl ?_
    refine r_goto (tgt := 6) dJ7_fill_d0a16_19 (by decide) ?_
    exact hk6 v1 (v3 + (1 : Int32)) v4 d2
theorem w_J7_fill_d0a16_6 {E : XE} (p0 : Nat) (hp0 : kd p0 = 1) (n : Nat) : ∀ (v1 : Int64) (v3 : Int32) (v4 : Int32) (d : DD), AW E si_J7_fill_d0a16 0 0 (QM E wrU) (f_J7_fill_d0a16_6 p0 n v1 v3 v4 d) 6 [(0, .ref p0), (1, .long v1), (3, .int v3), (4, .int v4)] [] d := by
  induction n with
  | zero => intros; exact r_none
  | succ n ih => intro v1 v3 v4 d; exact w_J7_fill_d0a16_6B p0 hp0 (f_J7_fill_d0a16_6 p0 n) ih v1 v3 v4 d
def f_J7_fill_d0a16 (p0 : Nat) (p1 : Int64) (d : DD) : Option (Unit × DD) :=
  bd (Int32.ofNat (ln p0)) fun x1 =>
  f_J7_fill_d0a16_6 p0 FU p1 (0 : Int32) x1 d
set_option maxRecDepth 100000 in
set_option maxHeartbeats 4000000 in
theorem am_J7_fill_d0a16 (p0 : Nat) (hp0 : kd p0 = 1) (p1 : Int64) (d : DD) : AM wrU mi_J7_fill_d0a16 0 0 [.ref p0, .long p1] d (f_J7_fill_d0a16 p0 p1 d) := by
  refine AM_intro (si := si_J7_fill_d0a16) (lv := [(0, .ref p0), (1, .long p1)]) rfl (by decide +kernel) rfl (Nat.le_of_ble_eq_true rfl) (fun E => ?_)
  unfold f_J7_fill_d0a16
  refine r_iconst dJ7_fill_d0a16_0 ki_0 ?_
  refine r_istore_n_x dJ7_fill_d0a16_1 rfl (by decide) rfl ?_
  refine r_aload_n_1 dJ7_fill_d0a16_2 rfl ?_
  refine r_alenl hp0 dJ7_fill_d0a16_3 ?_
  refine r_bdI (fun x1 => ?_)
  refine r_istore_w_x dJ7_fill_d0a16_4 (by decide) rfl ?_
  refine r_sub [2, 3, 1, 0] (lv' := [(0, .ref p0), (1, .long p1), (3, .int (0 : Int32)), (4, .int x1)]) rfl ?_
  exact w_J7_fill_d0a16_6 p0 hp0 FU p1 (0 : Int32) x1 d
theorem cf_J7_fill_d0a16 : CFs mi_J7_fill_d0a16 2 := ⟨sw_J7_fill_d0a16, nw_J7, cw_J7_fill_d0a16, by unfold plainF; decide +kernel⟩
abbrev si_J13_bitCount_95d88 : SI := (cJ13_bitCount_95d88, RJ13, 2, (some .int), 0, 0)
def f_J13_bitCount_95d88 (p0 : Int64) (d : DD) : Option (Int32 × DD) :=
  bd (p0 - ((lushr p0 (1 : Int32)) &&& (6148914691236517205 : Int64))) fun x1 =>
  bd ((x1 &&& (3689348814741910323 : Int64)) + ((lushr x1 (2 : Int32)) &&& (3689348814741910323 : Int64))) fun x2 =>
  bd ((x2 + (lushr x2 (4 : Int32))) &&& (1085102592571150095 : Int64)) fun x3 =>
  bd (x3 + (lushr x3 (8 : Int32))) fun x4 =>
  bd (x4 + (lushr x4 (16 : Int32))) fun x5 =>
  bd (x5 + (lushr x5 (32 : Int32))) fun x6 =>
  some (x6.toInt32 &&& (127 : Int32), d)
set_option maxRecDepth 100000 in
set_option maxHeartbeats 4000000 in
theorem am_J13_bitCount_95d88 (p0 : Int64) (d : DD) : AM wrI mi_J13_bitCount_95d88 0 0 [.long p0] d (f_J13_bitCount_95d88 p0 d) := by
  refine AM_intro (si := si_J13_bitCount_95d88) (lv := [(0, .long p0)]) rfl (by decide +kernel) rfl (Nat.le_of_ble_eq_true rfl) (fun E => ?_)
  unfold f_J13_bitCount_95d88
  refine r_lload_n_0 dJ13_bitCount_95d88_0 rfl ?_
  refine r_lload_n_0 dJ13_bitCount_95d88_1 rfl ?_
  refine r_iconst dJ13_bitCount_95d88_2 ki_1 ?_
  refine r_lushr dJ13_bitCount_95d88_3 ?_
  refine r_ldc2 dJ13_bitCount_95d88_4 kw_J13_314 ?_
  refine r_land dJ13_bitCount_95d88_7 ?_
  refine r_lsub dJ13_bitCount_95d88_8 ?_
  refine r_bdJ (fun x1 => ?_)
  refine r_lstore_n_0 dJ13_bitCount_95d88_9 rfl (by decide) rfl ?_
  refine r_lload_n_0 dJ13_bitCount_95d88_10 rfl ?_
  refine r_ldc2 dJ13_bitCount_95d88_11 kw_J13_316 ?_
  refine r_land dJ13_bitCount_95d88_14 ?_
  refine r_lload_n_0 dJ13_bitCount_95d88_15 rfl ?_
  refine r_iconst dJ13_bitCount_95d88_16 ki_2 ?_
  refine r_lushr dJ13_bitCount_95d88_17 ?_
  refine r_ldc2 dJ13_bitCount_95d88_18 kw_J13_316 ?_
  refine r_land dJ13_bitCount_95d88_21 ?_
  refine r_ladd dJ13_bitCount_95d88_22 ?_
  refine r_bdJ (fun x2 => ?_)
  refine r_lstore_n_0 dJ13_bitCount_95d88_23 rfl (by decide) rfl ?_
  refine r_lload_n_0 dJ13_bitCount_95d88_24 rfl ?_
  refine r_lload_n_0 dJ13_bitCount_95d88_25 rfl ?_
  refine r_iconst dJ13_bitCount_95d88_26 ki_4 ?_
  refine r_lushr dJ13_bitCount_95d88_27 ?_
  refine r_ladd dJ13_bitCount_95d88_28 ?_
  refine r_ldc2 dJ13_bitCount_95d88_29 kw_J13_318 ?_
  refine r_land dJ13_bitCount_95d88_32 ?_
  refine r_bdJ (fun x3 => ?_)
  refine r_lstore_n_0 dJ13_bitCount_95d88_33 rfl (by decide) rfl ?_
  refine r_lload_n_0 dJ13_bitCount_95d88_34 rfl ?_
  refine r_lload_n_0 dJ13_bitCount_95d88_35 rfl ?_
  refine r_bipush dJ13_bitCount_95d88_36 kb_8 ?_
  refine r_lushr dJ13_bitCount_95d88_38 ?_
  refine r_ladd dJ13_bitCount_95d88_39 ?_
  refine r_bdJ (fun x4 => ?_)
  refine r_lstore_n_0 dJ13_bitCount_95d88_40 rfl (by decide) rfl ?_
  refine r_lload_n_0 dJ13_bitCount_95d88_41 rfl ?_
  refine r_lload_n_0 dJ13_bitCount_95d88_42 rfl ?_
  refine r_bipush dJ13_bitCount_95d88_43 kb_16 ?_
  refine r_lushr dJ13_bitCount_95d88_45 ?_
  refine r_ladd dJ13_bitCount_95d88_46 ?_
  refine r_bdJ (fun x5 => ?_)
  refine r_lstore_n_0 dJ13_bitCount_95d88_47 rfl (by decide) rfl ?_
  refine r_lload_n_0 dJ13_bitCount_95d88_48 rfl ?_
  refine r_lload_n_0 dJ13_bitCount_95d88_49 rfl ?_
  refine r_bipush dJ13_bitCount_95d88_50 kb_32 ?_
  refine r_lushr dJ13_bitCount_95d88_52 ?_
  refine r_ladd dJ13_bitCount_95d88_53 ?_
  refine r_bdJ (fun x6 => ?_)
  refine r_lstore_n_0 dJ13_bitCount_95d88_54 rfl (by decide) rfl ?_
  refine r_lload_n_0 dJ13_bitCount_95d88_55 rfl ?_
  refine r_l2i dJ13_bitCount_95d88_56 ?_
  refine r_bipush dJ13_bitCount_95d88_57 kb_127 ?_
  refine r_iand dJ13_bitCount_95d88_59 ?_
  exact r_ireturn dJ13_bitCount_95d88_60 rfl
theorem cf_J13_bitCount_95d88 : CFs mi_J13_bitCount_95d88 1 := ⟨sw_J13_bitCount_95d88, nw_J13, cw_J13_bitCount_95d88, by unfold plainF; decide +kernel⟩
abbrev si_X9_at : SI := (cX9_at, RX9, 2, (some .int), 0, 0)
def f_X9_at (p0 : Nat) (p1 : Int32) (d : DD) : Option (Int32 × DD) :=
  if p1 < 0 then
  some ((0 : Int32), d)
  else
  if p1 < (Int32.ofNat (ln p0)) then
    if ixb p1 (ln p0) then
      some (d.1 p0 p1.toNatClampNeg, d)
      else none
    else
    some ((0 : Int32), d)
set_option maxRecDepth 100000 in
set_option maxHeartbeats 4000000 in
theorem am_X9_at (p0 : Nat) (hp0 : kd p0 = 0) (p1 : Int32) (d : DD) : AM wrI mi_X9_at 0 0 [.ref p0, .int p1] d (f_X9_at p0 p1 d) := by
  refine AM_intro (si := si_X9_at) (lv := [(0, .ref p0), (1, .int p1)]) rfl (by decide +kernel) rfl (Nat.le_of_ble_eq_true rfl) (fun E => ?_)
  unfold f_X9_at
  refine r_aload_n_0 dX9_at_0 rfl ?_
  refine r_ifnull dX9_at_1 ?_
  refine r_iload_n_1 dX9_at_4 rfl ?_
  refine r_if_lt (tgt := 20) dX9_at_5 (by decide) ?_ ?_
  · refine r_iconst dX9_at_20 ki_0 ?_
    exact r_ireturn dX9_at_21 rfl
  · refine r_iload_n_1 dX9_at_8 rfl ?_
    refine r_aload_n_0 dX9_at_9 rfl ?_
    refine r_aleni hp0 dX9_at_10 ?_
    refine r_icmp_ge (tgt := 20) dX9_at_11 (by decide) ?_ ?_
    · refine r_iconst dX9_at_20 ki_0 ?_
      exact r_ireturn dX9_at_21 rfl
    · refine r_aload_n_0 dX9_at_14 rfl ?_
      refine r_iload_n_1 dX9_at_15 rfl ?_
      refine r_iaload hp0 dX9_at_16 ?_
      refine r_goto (tgt := 21) dX9_at_17 (by decide) ?_
      exact r_ireturn dX9_at_21 rfl
theorem cf_X9_at : CFs mi_X9_at 2 := ⟨sw_X9_at, nw_X9, cw_X9_at, by unfold plainF; decide +kernel⟩
abbrev si_X9_put : SI := (cX9_put, RX9, 3, none, 0, 0)
def f_X9_put (p0 : Nat) (p1 : Int32) (p2 : Int32) (d : DD) : Option (Unit × DD) :=
  if p1 < 0 then
  some ((), d)
  else
  if p1 < (Int32.ofNat (ln p0)) then
    if ixb p1 (ln p0) then
      bd (u1 d p0 p1.toNatClampNeg p2) fun d1 =>
      some ((), d1)
      else none
    else
    some ((), d)
set_option maxRecDepth 100000 in
set_option maxHeartbeats 4000000 in
theorem am_X9_put (p0 : Nat) (hp0 : kd p0 = 0) (p1 : Int32) (p2 : Int32) (d : DD) : AM wrU mi_X9_put 0 0 [.ref p0, .int p1, .int p2] d (f_X9_put p0 p1 p2 d) := by
  refine AM_intro (si := si_X9_put) (lv := [(0, .ref p0), (1, .int p1), (2, .int p2)]) rfl (by decide +kernel) rfl (Nat.le_of_ble_eq_true rfl) (fun E => ?_)
  unfold f_X9_put
  refine r_aload_n_0 dX9_put_0 rfl ?_
  refine r_ifnull dX9_put_1 ?_
  refine r_iload_n_1 dX9_put_4 rfl ?_
  refine r_if_lt (tgt := 18) dX9_put_5 (by decide) ?_ ?_
  · exact r_return dX9_put_18 rfl
  · refine r_iload_n_1 dX9_put_8 rfl ?_
    refine r_aload_n_0 dX9_put_9 rfl ?_
    refine r_aleni hp0 dX9_put_10 ?_
    refine r_icmp_ge (tgt := 18) dX9_put_11 (by decide) ?_ ?_
    · exact r_return dX9_put_18 rfl
    · refine r_aload_n_0 dX9_put_14 rfl ?_
      refine r_iload_n_1 dX9_put_15 rfl ?_
      refine r_iload_n_2 dX9_put_16 rfl ?_
      refine r_iastore hp0 dX9_put_17 ?_
      refine r_bd (fun d1 => ?_)
      exact r_return dX9_put_18 rfl
theorem cf_X9_put : CFs mi_X9_put 3 := ⟨sw_X9_put, nw_X9, cw_X9_put, by unfold plainF; decide +kernel⟩
abbrev si_X9_putLong : SI := (cX9_putLong, RX9, 4, none, 0, 0)
def f_X9_putLong (p0 : Nat) (p1 : Int32) (p2 : Int64) (d : DD) : Option (Unit × DD) :=
  if p1 < 0 then
  some ((), d)
  else
  if p1 < (Int32.ofNat (ln p0)) then
    if ixb p1 (ln p0) then
      bd (u2 d p0 p1.toNatClampNeg p2) fun d1 =>
      some ((), d1)
      else none
    else
    some ((), d)
set_option maxRecDepth 100000 in
set_option maxHeartbeats 4000000 in
theorem am_X9_putLong (p0 : Nat) (hp0 : kd p0 = 1) (p1 : Int32) (p2 : Int64) (d : DD) : AM wrU mi_X9_putLong 0 0 [.ref p0, .int p1, .long p2] d (f_X9_putLong p0 p1 p2 d) := by
  refine AM_intro (si := si_X9_putLong) (lv := [(0, .ref p0), (1, .int p1), (2, .long p2)]) rfl (by decide +kernel) rfl (Nat.le_of_ble_eq_true rfl) (fun E => ?_)
  unfold f_X9_putLong
  refine r_aload_n_0 dX9_putLong_0 rfl ?_
  refine r_ifnull dX9_putLong_1 ?_
  refine r_iload_n_1 dX9_putLong_4 rfl ?_
  refine r_if_lt (tgt := 18) dX9_putLong_5 (by decide) ?_ ?_
  · exact r_return dX9_putLong_18 rfl
  · refine r_iload_n_1 dX9_putLong_8 rfl ?_
    refine r_aload_n_0 dX9_putLong_9 rfl ?_
    refine r_alenl hp0 dX9_putLong_10 ?_
    refine r_icmp_ge (tgt := 18) dX9_putLong_11 (by decide) ?_ ?_
    · exact r_return dX9_putLong_18 rfl
    · refine r_aload_n_0 dX9_putLong_14 rfl ?_
      refine r_iload_n_1 dX9_putLong_15 rfl ?_
      refine r_lload_n_2 dX9_putLong_16 rfl ?_
      refine r_lastore hp0 dX9_putLong_17 ?_
      refine r_bd (fun d1 => ?_)
      exact r_return dX9_putLong_18 rfl
theorem cf_X9_putLong : CFs mi_X9_putLong 3 := ⟨sw_X9_putLong, nw_X9, cw_X9_putLong, by unfold plainF; decide +kernel⟩
abbrev si_X7_addToken : SI := (cX7_addToken, RX7, 5, none, 1, 23)
def f_X7_addToken (p1 : Int32) (p2 : Int32) (p3 : Int64) (d : DD) : Option (Unit × DD) :=
  (f_X9_put 46 (d.1 45 0) p1 d).bind fun q1 =>
  (f_X9_put 47 (q1.2.1 45 0) p2 q1.2).bind fun q2 =>
  (f_X9_putLong 48 (q2.2.1 45 0) p3 q2.2).bind fun q3 =>
  bd (u1 q3.2 45 0 ((q3.2.1 45 0) + (1 : Int32))) fun d4 =>
  some ((), d4)
set_option maxRecDepth 100000 in
set_option maxHeartbeats 4000000 in
theorem am_X7_addToken (p1 : Int32) (p2 : Int32) (p3 : Int64) (d : DD) : AM wrU mi_X7_addToken 1 23 [.ref 45, .int p1, .int p2, .long p3] d (f_X7_addToken p1 p2 p3 d) := by
  refine AM_intro (si := si_X7_addToken) (lv := [(0, .ref 45), (1, .int p1), (2, .int p2), (3, .long p3)]) rfl (by decide +kernel) rfl (Nat.le_of_ble_eq_true rfl) (fun E => ?_)
  unfold f_X7_addToken
  refine r_aload_n_0 dX7_addToken_0 rfl ?_
  refine r_getr (t := 46) (cc := 7) 1 rfl rfl uX7 (by decide) rfl fw_X7_15 rfl dX7_addToken_1 ?_
  refine r_aload_n_0 dX7_addToken_4 rfl ?_
  refine r_geti (cc := 7) 0 rfl rfl uX7 (by decide) rfl fw_X7_9 dX7_addToken_5 ?_
  refine r_iload_n_1 dX7_addToken_8 rfl ?_
  refine r_callSNU [] (am_X9_put 46 rfl (d.1 45 0) p1 d) cf_X9_put wn_X7_51 (by decide) dX7_addToken_9 rfl (Nat.le_of_ble_eq_true rfl) ⟨rfl, rfl⟩ (fun q1 => ?_)
  refine r_aload_n_0 dX7_addToken_12 rfl ?_
  refine r_getr (t := 47) (cc := 7) 2 rfl rfl uX7 (by decide) rfl fw_X7_19 rfl dX7_addToken_13 ?_
  refine r_aload_n_0 dX7_addToken_16 rfl ?_
  refine r_geti (cc := 7) 0 rfl rfl uX7 (by decide) rfl fw_X7_9 dX7_addToken_17 ?_
  refine r_iload_n_2 dX7_addToken_20 rfl ?_
  refine r_callSNU [] (am_X9_put 47 rfl (q1.2.1 45 0) p2 q1.2) cf_X9_put wn_X7_51 (by decide) dX7_addToken_21 rfl (Nat.le_of_ble_eq_true rfl) ⟨rfl, rfl⟩ (fun q2 => ?_)
  refine r_aload_n_0 dX7_addToken_24 rfl ?_
  refine r_getr (t := 48) (cc := 7) 3 rfl rfl uX7 (by decide) rfl fw_X7_22 rfl dX7_addToken_25 ?_
  refine r_aload_n_0 dX7_addToken_28 rfl ?_
  refine r_geti (cc := 7) 0 rfl rfl uX7 (by decide) rfl fw_X7_9 dX7_addToken_29 ?_
  refine r_lload_n_3 dX7_addToken_32 rfl ?_
  refine r_callSNU [] (am_X9_putLong 48 rfl (q2.2.1 45 0) p3 q2.2) cf_X9_putLong wn_X7_54 (by decide) dX7_addToken_33 rfl (Nat.le_of_ble_eq_true rfl) ⟨rfl, rfl⟩ (fun q3 => ?_)
  refine r_aload_n_0 dX7_addToken_36 rfl ?_
  refine r_dupa dX7_addToken_37 ?_
  refine r_geti (cc := 7) 0 rfl rfl uX7 (by decide) rfl fw_X7_9 dX7_addToken_38 ?_
  refine r_iconst dX7_addToken_41 ki_1 ?_
  refine r_iadd dX7_addToken_42 ?_
  refine r_puti (cc := 7) 0 tyX7 tyX7_ok nmX7 rfl (by decide +kernel) rfl rfl uX7 (by decide) rfl fw_X7_9 dX7_addToken_43 ?_
  refine r_bd (fun d4 => ?_)
  exact r_return dX7_addToken_46 rfl
theorem cf_X7_addToken : CFv mi_X7_addToken 3 := ⟨iw_X7_addToken, vw_X7_addToken, nw_X7, cw_X7_addToken, by unfold plainF; decide +kernel⟩
abbrev si_X7_isLetter : SI := (cX7_isLetter, RX7, 1, (some .boolean), 0, 0)
def f_X7_isLetter (p0 : Int32) (d : DD) : Option (Int32 × DD) :=
  if p0 < (97 : Int32) then
  some ((0 : Int32), d)
  else
  if (122 : Int32) < p0 then
    some ((0 : Int32), d)
    else
    some ((1 : Int32), d)
set_option maxRecDepth 100000 in
set_option maxHeartbeats 4000000 in
theorem am_X7_isLetter (p0 : Int32) (d : DD) : AM wrI mi_X7_isLetter 0 0 [.int p0] d (f_X7_isLetter p0 d) := by
  refine AM_intro (si := si_X7_isLetter) (lv := [(0, .int p0)]) rfl (by decide +kernel) rfl (Nat.le_of_ble_eq_true rfl) (fun E => ?_)
  unfold f_X7_isLetter
  refine r_iload_n_0 dX7_isLetter_0 rfl ?_
  refine r_bipush dX7_isLetter_1 kb_97 ?_
  refine r_icmp_lt (tgt := 16) dX7_isLetter_3 (by decide) ?_ ?_
  · refine r_iconst dX7_isLetter_16 ki_0 ?_
    exact r_zreturn dX7_isLetter_17 rfl rfl
  · refine r_iload_n_0 dX7_isLetter_6 rfl ?_
    refine r_bipush dX7_isLetter_7 kb_122 ?_
    refine r_icmp_gt (tgt := 16) dX7_isLetter_9 (by decide) ?_ ?_
    · refine r_iconst dX7_isLetter_16 ki_0 ?_
      exact r_zreturn dX7_isLetter_17 rfl rfl
    · refine r_iconst dX7_isLetter_12 ki_1 ?_
      refine r_goto (tgt := 17) dX7_isLetter_13 (by decide) ?_
      exact r_zreturn dX7_isLetter_17 rfl rfl
theorem cf_X7_isLetter : CFs mi_X7_isLetter 1 := ⟨sw_X7_isLetter, nw_X7, cw_X7_isLetter, by unfold plainF; decide +kernel⟩
abbrev si_X7_isDigit : SI := (cX7_isDigit, RX7, 1, (some .boolean), 0, 0)
def f_X7_isDigit (p0 : Int32) (d : DD) : Option (Int32 × DD) :=
  if p0 < (48 : Int32) then
  some ((0 : Int32), d)
  else
  if (57 : Int32) < p0 then
    some ((0 : Int32), d)
    else
    some ((1 : Int32), d)
set_option maxRecDepth 100000 in
set_option maxHeartbeats 4000000 in
theorem am_X7_isDigit (p0 : Int32) (d : DD) : AM wrI mi_X7_isDigit 0 0 [.int p0] d (f_X7_isDigit p0 d) := by
  refine AM_intro (si := si_X7_isDigit) (lv := [(0, .int p0)]) rfl (by decide +kernel) rfl (Nat.le_of_ble_eq_true rfl) (fun E => ?_)
  unfold f_X7_isDigit
  refine r_iload_n_0 dX7_isDigit_0 rfl ?_
  refine r_bipush dX7_isDigit_1 kb_48 ?_
  refine r_icmp_lt (tgt := 16) dX7_isDigit_3 (by decide) ?_ ?_
  · refine r_iconst dX7_isDigit_16 ki_0 ?_
    exact r_zreturn dX7_isDigit_17 rfl rfl
  · refine r_iload_n_0 dX7_isDigit_6 rfl ?_
    refine r_bipush dX7_isDigit_7 kb_57 ?_
    refine r_icmp_gt (tgt := 16) dX7_isDigit_9 (by decide) ?_ ?_
    · refine r_iconst dX7_isDigit_16 ki_0 ?_
      exact r_zreturn dX7_isDigit_17 rfl rfl
    · refine r_iconst dX7_isDigit_12 ki_1 ?_
      refine r_goto (tgt := 17) dX7_isDigit_13 (by decide) ?_
      exact r_zreturn dX7_isDigit_17 rfl rfl
theorem cf_X7_isDigit : CFs mi_X7_isDigit 1 := ⟨sw_X7_isDigit, nw_X7, cw_X7_isDigit, by unfold plainF; decide +kernel⟩
abbrev si_X7_runEnd : SI := (cX7_runEnd, RX7, 5, (some .int), 1, 21)
def f_X7_runEnd_5B (p0 : Nat) (k5 : Int32 → Int32 → Int32 → DD → Option (Int32 × DD)) (v2 : Int32) (v3 : Int32) (v4 : Int32) (d : DD) : Option (Int32 × DD) :=
  if v4 < v2 then
  (f_X9_at p0 v4 d).bind fun q1 =>
    (f_X7_isLetter q1.1 q1.2).bind fun q2 =>
    if q2.1 = 0 then
    (f_X9_at p0 v4 q2.2).bind fun q3 =>
      (f_X7_isDigit q3.1 q3.2).bind fun q4 =>
      if q4.1 = 0 then
      some (v3, q4.2)
      else
      k5 v2 (v3 + (1 : Int32)) (v4 + (1 : Int32)) q4.2
    else
    k5 v2 (v3 + (1 : Int32)) (v4 + (1 : Int32)) q2.2
  else
  some (v3, d)
def f_X7_runEnd_5 (p0 : Nat) : Nat → Int32 → Int32 → Int32 → DD → Option (Int32 × DD)
  | 0, _, _, _, _ => none
  | n + 1, v2, v3, v4, d => f_X7_runEnd_5B p0 (f_X7_runEnd_5 p0 n) v2 v3 v4 d
set_option maxRecDepth 100000 in
set_option maxHeartbeats 4000000 in
theorem w_X7_runEnd_5B {E : XE} (p0 : Nat) (hp0 : kd p0 = 0) (k5 : Int32 → Int32 → Int32 → DD → Option (Int32 × DD)) (hk5 : ∀ (v2 : Int32) (v3 : Int32) (v4 : Int32) (d : DD), AW E si_X7_runEnd 0 0 (QM E wrI) (k5 v2 v3 v4 d) 5 [(0, .ref p0), (2, .int v2), (3, .int v3), (4, .int v4)] [] d) (v2 : Int32) (v3 : Int32) (v4 : Int32) (d : DD) : AW E si_X7_runEnd 0 0 (QM E wrI) (f_X7_runEnd_5B p0 k5 v2 v3 v4 d) 5 [(0, .ref p0), (2, .int v2), (3, .int v3), (4, .int v4)] [] d := by
  unfold f_X7_runEnd_5B
  refine r_iload_w_3 dX7_runEnd_5 ?_
  refine r_iload_n_1 dX7_runEnd_7 rfl ?_
  refine r_icmp_ge (tgt := 46) dX7_runEnd_8 (by decide) ?_ ?_
  · refine r_iload_n_2 dX7_runEnd_46 rfl ?_
    exact r_ireturn dX7_runEnd_47 rfl
  · refine r_aload_n_0 dX7_runEnd_11 rfl ?_
    refine r_iload_w_3 dX7_runEnd_12 ?_
    refine r_callSNI [] (am_X9_at p0 hp0 v4 d) cf_X9_at wn_X7_32 (by decide) dX7_runEnd_14 rfl (Nat.le_of_ble_eq_true rfl) ⟨rfl, rfl⟩ (fun q1 => ?_)
    refine r_callSI [] (am_X7_isLetter q1.1 q1.2) cf_X7_isLetter mw_X7_58 (by decide) dX7_runEnd_17 rfl (Nat.le_of_ble_eq_true rfl) ⟨rfl, rfl⟩ (fun q2 => ?_)
    refine r_if_ne (tgt := 37) dX7_runEnd_20 (by decide) ?_ ?_
    · refine r_iinc_2 dX7_runEnd_37 ki_1 (by decide) rfl ?_
      refine r_iinc_3 dX7_runEnd_40 ki_1 (by decide) rfl ?_
      refine r_goto (tgt := 5) dX7_runEnd_43 (by decide) ?_
      exact hk5 v2 (v3 + (1 : Int32)) (v4 + (1 : Int32)) q2.2
    · refine r_aload_n_0 dX7_runEnd_23 rfl ?_
      refine r_iload_w_3 dX7_runEnd_24 ?_
      refine r_callSNI [] (am_X9_at p0 hp0 v4 q2.2) cf_X9_at wn_X7_32 (by decide) dX7_runEnd_26 rfl (Nat.le_of_ble_eq_true rfl) ⟨rfl, rfl⟩ (fun q3 => ?_)
      refine r_callSI [] (am_X7_isDigit q3.1 q3.2) cf_X7_isDigit mw_X7_62 (by decide) dX7_runEnd_29 rfl (Nat.le_of_ble_eq_true rfl) ⟨rfl, rfl⟩ (fun q4 => ?_)
      refine r_if_ne (tgt := 37) dX7_runEnd_32 (by decide) ?_ ?_
      · refine r_iinc_2 dX7_runEnd_37 ki_1 (by decide) rfl ?_
        refine r_iinc_3 dX7_runEnd_40 ki_1 (by decide) rfl ?_
        refine r_goto (tgt := 5) dX7_runEnd_43 (by decide) ?_
        exact hk5 v2 (v3 + (1 : Int32)) (v4 + (1 : Int32)) q4.2
      · refine r_iload_n_2 dX7_runEnd_35 rfl ?_
        exact r_ireturn dX7_runEnd_36 rfl
theorem w_X7_runEnd_5 {E : XE} (p0 : Nat) (hp0 : kd p0 = 0) (n : Nat) : ∀ (v2 : Int32) (v3 : Int32) (v4 : Int32) (d : DD), AW E si_X7_runEnd 0 0 (QM E wrI) (f_X7_runEnd_5 p0 n v2 v3 v4 d) 5 [(0, .ref p0), (2, .int v2), (3, .int v3), (4, .int v4)] [] d := by
  induction n with
  | zero => intros; exact r_none
  | succ n ih => intro v2 v3 v4 d; exact w_X7_runEnd_5B p0 hp0 (f_X7_runEnd_5 p0 n) ih v2 v3 v4 d
def f_X7_runEnd (p0 : Nat) (p1 : Int32) (p2 : Int32) (d : DD) : Option (Int32 × DD) :=
  f_X7_runEnd_5 p0 FU p2 p1 p1 d
set_option maxRecDepth 100000 in
set_option maxHeartbeats 4000000 in
theorem am_X7_runEnd (p0 : Nat) (hp0 : kd p0 = 0) (p1 : Int32) (p2 : Int32) (d : DD) : AM wrI mi_X7_runEnd 1 21 [.ref p0, .int p1, .int p2] d (f_X7_runEnd p0 p1 p2 d) := by
  refine AM_intro (si := si_X7_runEnd) (lv := [(0, .ref p0), (1, .int p1), (2, .int p2)]) rfl (by decide +kernel) rfl (Nat.le_of_ble_eq_true rfl) (fun E => ?_)
  unfold f_X7_runEnd
  refine r_iload_n_1 dX7_runEnd_0 rfl ?_
  refine r_istore_n_x dX7_runEnd_1 rfl (by decide) rfl ?_
  refine r_iload_n_2 dX7_runEnd_2 rfl ?_
  refine r_istore_w_x dX7_runEnd_3 (by decide) rfl ?_
  refine r_sub [2, 4, 1, 0] (lv' := [(0, .ref p0), (2, .int p2), (3, .int p1), (4, .int p1)]) rfl ?_
  exact w_X7_runEnd_5 p0 hp0 FU p2 p1 p1 d
theorem cf_X7_runEnd : CFs mi_X7_runEnd 3 := ⟨sw_X7_runEnd, nw_X7, cw_X7_runEnd, by unfold plainF; decide +kernel⟩
abbrev si_X7_sortOf : SI := (cX7_sortOf, RX7, 2, (some .int), 0, 0)
def f_X7_sortOf (p0 : Int64) (d : DD) : Option (Int32 × DD) :=
  if p0 = (1802071652 : Int64) then
  some ((5 : Int32), d)
  else
  if p0 = (25209 : Int64) then
    some ((6 : Int32), d)
    else
    if p0 = (123581014175598 : Int64) then
      some ((7 : Int32), d)
      else
      if p0 = (1953658213 : Int64) then
        some ((8 : Int32), d)
        else
        if p0 = (1818326117 : Int64) then
          some ((9 : Int32), d)
          else
          if p0 = (448444786035 : Int64) then
            some ((10 : Int32), d)
            else
            if p0 = (1633969267 : Int64) then
              some ((11 : Int32), d)
              else
              if p0 = (465726040947 : Int64) then
                some ((12 : Int32), d)
                else
                if p0 = (1953854062 : Int64) then
                  some ((13 : Int32), d)
                  else
                  if p0 = (512735736947 : Int64) then
                    some ((14 : Int32), d)
                    else
                    some ((4 : Int32), d)
set_option maxRecDepth 100000 in
set_option maxHeartbeats 4000000 in
theorem am_X7_sortOf (p0 : Int64) (d : DD) : AM wrI mi_X7_sortOf 0 0 [.long p0] d (f_X7_sortOf p0 d) := by
  refine AM_intro (si := si_X7_sortOf) (lv := [(0, .long p0)]) rfl (by decide +kernel) rfl (Nat.le_of_ble_eq_true rfl) (fun E => ?_)
  unfold f_X7_sortOf
  refine r_lload_n_0 dX7_sortOf_0 rfl ?_
  refine r_ldc2 dX7_sortOf_1 kw_X7_73 ?_
  refine r_lcmp_ne (tgt := 10) dX7_sortOf_4 dX7_sortOf_5 (by decide) ?_ ?_
  · refine r_lload_n_0 dX7_sortOf_10 rfl ?_
    refine r_ldc2 dX7_sortOf_11 kw_X7_75 ?_
    refine r_lcmp_ne (tgt := 21) dX7_sortOf_14 dX7_sortOf_15 (by decide) ?_ ?_
    · refine r_lload_n_0 dX7_sortOf_21 rfl ?_
      refine r_ldc2 dX7_sortOf_22 kw_X7_77 ?_
      refine r_lcmp_ne (tgt := 32) dX7_sortOf_25 dX7_sortOf_26 (by decide) ?_ ?_
      · refine r_lload_n_0 dX7_sortOf_32 rfl ?_
        refine r_ldc2 dX7_sortOf_33 kw_X7_79 ?_
        refine r_lcmp_ne (tgt := 43) dX7_sortOf_36 dX7_sortOf_37 (by decide) ?_ ?_
        · refine r_lload_n_0 dX7_sortOf_43 rfl ?_
          refine r_ldc2 dX7_sortOf_44 kw_X7_81 ?_
          refine r_lcmp_ne (tgt := 54) dX7_sortOf_47 dX7_sortOf_48 (by decide) ?_ ?_
          · refine r_lload_n_0 dX7_sortOf_54 rfl ?_
            refine r_ldc2 dX7_sortOf_55 kw_X7_83 ?_
            refine r_lcmp_ne (tgt := 65) dX7_sortOf_58 dX7_sortOf_59 (by decide) ?_ ?_
            · refine r_lload_n_0 dX7_sortOf_65 rfl ?_
              refine r_ldc2 dX7_sortOf_66 kw_X7_85 ?_
              refine r_lcmp_ne (tgt := 76) dX7_sortOf_69 dX7_sortOf_70 (by decide) ?_ ?_
              · refine r_lload_n_0 dX7_sortOf_76 rfl ?_
                refine r_ldc2 dX7_sortOf_77 kw_X7_87 ?_
                refine r_lcmp_ne (tgt := 87) dX7_sortOf_80 dX7_sortOf_81 (by decide) ?_ ?_
                · refine r_lload_n_0 dX7_sortOf_87 rfl ?_
                  refine r_ldc2 dX7_sortOf_88 kw_X7_89 ?_
                  refine r_lcmp_ne (tgt := 98) dX7_sortOf_91 dX7_sortOf_92 (by decide) ?_ ?_
                  · refine r_lload_n_0 dX7_sortOf_98 rfl ?_
                    refine r_ldc2 dX7_sortOf_99 kw_X7_91 ?_
                    refine r_lcmp_ne (tgt := 111) dX7_sortOf_102 dX7_sortOf_103 (by decide) ?_ ?_
                    · refine r_iconst dX7_sortOf_111 ki_4 ?_
                      exact r_ireturn dX7_sortOf_112 rfl
                    · refine r_bipush dX7_sortOf_106 kb_14 ?_
                      refine r_goto (tgt := 112) dX7_sortOf_108 (by decide) ?_
                      exact r_ireturn dX7_sortOf_112 rfl
                  · refine r_bipush dX7_sortOf_95 kb_13 ?_
                    exact r_ireturn dX7_sortOf_97 rfl
                · refine r_bipush dX7_sortOf_84 kb_12 ?_
                  exact r_ireturn dX7_sortOf_86 rfl
              · refine r_bipush dX7_sortOf_73 kb_11 ?_
                exact r_ireturn dX7_sortOf_75 rfl
            · refine r_bipush dX7_sortOf_62 kb_10 ?_
              exact r_ireturn dX7_sortOf_64 rfl
          · refine r_bipush dX7_sortOf_51 kb_9 ?_
            exact r_ireturn dX7_sortOf_53 rfl
        · refine r_bipush dX7_sortOf_40 kb_8 ?_
          exact r_ireturn dX7_sortOf_42 rfl
      · refine r_bipush dX7_sortOf_29 kb_7 ?_
        exact r_ireturn dX7_sortOf_31 rfl
    · refine r_bipush dX7_sortOf_18 kb_6 ?_
      exact r_ireturn dX7_sortOf_20 rfl
  · refine r_iconst dX7_sortOf_8 ki_5 ?_
    exact r_ireturn dX7_sortOf_9 rfl
theorem cf_X7_sortOf : CFs mi_X7_sortOf 1 := ⟨sw_X7_sortOf, nw_X7, cw_X7_sortOf, by unfold plainF; decide +kernel⟩
abbrev si_X7_addRun : SI := (cX7_addRun, RX7, 12, none, 2, 47)
def f_X7_addRun_140 (p1 : Nat) (v2 : Int32) (d : DD) : Option (Unit × DD) :=
  (f_X7_addToken (1 : Int32) v2 (0 : Int64) d).bind fun q1 =>
  some ((), q1.2)
set_option maxRecDepth 100000 in
set_option maxHeartbeats 4000000 in
theorem w_X7_addRun_140 {E : XE} (p1 : Nat) (hp1 : kd p1 = 0) (v2 : Int32) (d : DD) : AW E si_X7_addRun 0 0 (QM E wrU) (f_X7_addRun_140 p1 v2 d) 140 [(0, .ref 45), (2, .int v2)] [] d := by
  unfold f_X7_addRun_140
  refine r_aload_n_0 dX7_addRun_140 rfl ?_
  refine r_iconst dX7_addRun_141 ki_1 ?_
  refine r_iload_n_1 dX7_addRun_142 rfl ?_
  refine r_lconst dX7_addRun_143 kl_0 ?_
  refine r_callVU (cc := 7) [] (am_X7_addToken (1 : Int32) v2 (0 : Int64) d) rfl rfl cf_X7_addToken mw_X7_36 (by decide) dX7_addRun_144 rfl (Nat.le_of_ble_eq_true rfl) ⟨rfl, rfl⟩ (fun q1 => ?_)
  exact r_return dX7_addRun_147 rfl
def f_X7_addRun_112 (p1 : Nat) (v2 : Int32) (v4 : Int32) (v5 : Int32) (v8 : Int64) (d : DD) : Option (Unit × DD) :=
  if v4 = 0 then
  if v5 < (1 : Int32) then
    f_X7_addRun_140 p1 v2 d
    else
    if (2 : Int32) < v5 then
      f_X7_addRun_140 p1 v2 d
      else
      (f_X7_addToken (3 : Int32) v2 v8 d).bind fun q2 =>
        some ((), q2.2)
  else
  f_X7_addRun_140 p1 v2 d
set_option maxRecDepth 100000 in
set_option maxHeartbeats 4000000 in
theorem w_X7_addRun_112 {E : XE} (p1 : Nat) (hp1 : kd p1 = 0) (v2 : Int32) (v4 : Int32) (v5 : Int32) (v8 : Int64) (d : DD) : AW E si_X7_addRun 0 0 (QM E wrU) (f_X7_addRun_112 p1 v2 v4 v5 v8 d) 112 [(0, .ref 45), (2, .int v2), (4, .int v4), (5, .int v5), (8, .long v8)] [] d := by
  unfold f_X7_addRun_112
  refine r_iload_w_2 dX7_addRun_112 ?_
  refine r_if_ne (tgt := 140) dX7_addRun_114 (by decide) ?_ ?_
  · refine r_sub [0, 1] (lv' := [(0, .ref 45), (2, .int v2)]) rfl ?_
    exact w_X7_addRun_140 p1 hp1 v2 d
  · refine r_iload_w_3 dX7_addRun_117 ?_
    refine r_iconst dX7_addRun_119 ki_1 ?_
    refine r_icmp_lt (tgt := 140) dX7_addRun_120 (by decide) ?_ ?_
    · refine r_sub [0, 1] (lv' := [(0, .ref 45), (2, .int v2)]) rfl ?_
      exact w_X7_addRun_140 p1 hp1 v2 d
    · refine r_iload_w_3 dX7_addRun_123 ?_
      refine r_iconst dX7_addRun_125 ki_2 ?_
      refine r_icmp_gt (tgt := 140) dX7_addRun_126 (by decide) ?_ ?_
      · refine r_sub [0, 1] (lv' := [(0, .ref 45), (2, .int v2)]) rfl ?_
        exact w_X7_addRun_140 p1 hp1 v2 d
      · refine r_aload_n_0 dX7_addRun_129 rfl ?_
        refine r_iconst dX7_addRun_130 ki_3 ?_
        refine r_iload_n_1 dX7_addRun_131 rfl ?_
        refine r_lload_w_4 dX7_addRun_132 ?_
        refine r_callVU (cc := 7) [] (am_X7_addToken (3 : Int32) v2 v8 d) rfl rfl cf_X7_addToken mw_X7_36 (by decide) dX7_addRun_134 rfl (Nat.le_of_ble_eq_true rfl) ⟨rfl, rfl⟩ (fun q2 => ?_)
        refine r_goto (tgt := 147) dX7_addRun_137 (by decide) ?_
        exact r_return dX7_addRun_147 rfl
def f_X7_addRun_15B (p1 : Nat) (k15 : Int32 → Int32 → Int32 → Int32 → Int64 → Int64 → Int32 → DD → Option (Unit × DD)) (v2 : Int32) (v3 : Int32) (v4 : Int32) (v5 : Int32) (v6 : Int64) (v8 : Int64) (v10 : Int32) (d : DD) : Option (Unit × DD) :=
  if v10 < v3 then
  (f_X9_at p1 v10 d).bind fun q5 =>
    bd ((v6 <<< ((8 : Int32).toInt64 &&& 63)) ||| q5.1.toInt64) fun x6 =>
    (f_X7_isDigit q5.1 q5.2).bind fun q7 =>
    if q7.1 = 0 then
    k15 v2 v3 (v4 + (1 : Int32)) v5 x6 v8 (v10 + (1 : Int32)) q7.2
    else
    bd (((v8 * (10 : Int64)) + q5.1.toInt64) - (48 : Int64)) fun x8 =>
      k15 v2 v3 v4 (v5 + (1 : Int32)) x6 x8 (v10 + (1 : Int32)) q7.2
  else
  if v5 = 0 then
    if v4 < (1 : Int32) then
      f_X7_addRun_112 p1 v2 v4 v5 v8 d
      else
      if (6 : Int32) < v4 then
        f_X7_addRun_112 p1 v2 v4 v5 v8 d
        else
        (f_X7_sortOf v6 d).bind fun q3 =>
          (f_X7_addToken q3.1 v2 v6 q3.2).bind fun q4 =>
          some ((), q4.2)
    else
    f_X7_addRun_112 p1 v2 v4 v5 v8 d
def f_X7_addRun_15 (p1 : Nat) : Nat → Int32 → Int32 → Int32 → Int32 → Int64 → Int64 → Int32 → DD → Option (Unit × DD)
  | 0, _, _, _, _, _, _, _, _ => none
  | n + 1, v2, v3, v4, v5, v6, v8, v10, d => f_X7_addRun_15B p1 (f_X7_addRun_15 p1 n) v2 v3 v4 v5 v6 v8 v10 d
set_option maxRecDepth 100000 in
set_option maxHeartbeats 4000000 in
theorem w_X7_addRun_15B {E : XE} (p1 : Nat) (hp1 : kd p1 = 0) (k15 : Int32 → Int32 → Int32 → Int32 → Int64 → Int64 → Int32 → DD → Option (Unit × DD)) (hk15 : ∀ (v2 : Int32) (v3 : Int32) (v4 : Int32) (v5 : Int32) (v6 : Int64) (v8 : Int64) (v10 : Int32) (d : DD), AW E si_X7_addRun 0 0 (QM E wrU) (k15 v2 v3 v4 v5 v6 v8 v10 d) 15 [(0, .ref 45), (1, .ref p1), (2, .int v2), (3, .int v3), (4, .int v4), (5, .int v5), (6, .long v6), (8, .long v8), (10, .int v10)] [] d) (v2 : Int32) (v3 : Int32) (v4 : Int32) (v5 : Int32) (v6 : Int64) (v8 : Int64) (v10 : Int32) (d : DD) : AW E si_X7_addRun 0 0 (QM E wrU) (f_X7_addRun_15B p1 k15 v2 v3 v4 v5 v6 v8 v10 d) 15 [(0, .ref 45), (1, .ref p1), (2, .int v2), (3, .int v3), (4, .int v4), (5, .int v5), (6, .long v6), (8, .long v8), (10, .int v10)] [] d := by
  unfold f_X7_addRun_15B
  refine r_iload_w_8 dX7_addRun_15 ?_
  refine r_iload_n_3 dX7_addRun_17 rfl ?_
  refine r_icmp_ge (tgt := 79) dX7_addRun_18 (by decide) ?_ ?_
  · refine r_iload_w_5 dX7_addRun_79 ?_
    refine r_if_ne (tgt := 112) dX7_addRun_81 (by decide) ?_ ?_
    · refine r_sub [0, 2, 4, 5, 7] (lv' := [(0, .ref 45), (2, .int v2), (4, .int v4), (5, .int v5), (8, .long v8)]) rfl ?_
      exact w_X7_addRun_112 p1 hp1 v2 v4 v5 v8 d
    · refine r_iload_w_4 dX7_addRun_84 ?_
      refine r_iconst dX7_addRun_86 ki_1 ?_
      refine r_icmp_lt (tgt := 112) dX7_addRun_87 (by decide) ?_ ?_
      · refine r_sub [0, 2, 4, 5, 7] (lv' := [(0, .ref 45), (2, .int v2), (4, .int v4), (5, .int v5), (8, .long v8)]) rfl ?_
        exact w_X7_addRun_112 p1 hp1 v2 v4 v5 v8 d
      · refine r_iload_w_4 dX7_addRun_90 ?_
        refine r_bipush dX7_addRun_92 kb_6 ?_
        refine r_icmp_gt (tgt := 112) dX7_addRun_94 (by decide) ?_ ?_
        · refine r_sub [0, 2, 4, 5, 7] (lv' := [(0, .ref 45), (2, .int v2), (4, .int v4), (5, .int v5), (8, .long v8)]) rfl ?_
          exact w_X7_addRun_112 p1 hp1 v2 v4 v5 v8 d
        · refine r_aload_n_0 dX7_addRun_97 rfl ?_
          refine r_lload_w_6 dX7_addRun_98 ?_
          refine r_callSI [.ref 45] (am_X7_sortOf v6 d) cf_X7_sortOf mw_X7_69 (by decide) dX7_addRun_100 rfl (Nat.le_of_ble_eq_true rfl) ⟨rfl, rfl⟩ (fun q3 => ?_)
          refine r_iload_n_2 dX7_addRun_103 rfl ?_
          refine r_lload_w_6 dX7_addRun_104 ?_
          refine r_callVU (cc := 7) [] (am_X7_addToken q3.1 v2 v6 q3.2) rfl rfl cf_X7_addToken mw_X7_36 (by decide) dX7_addRun_106 rfl (Nat.le_of_ble_eq_true rfl) ⟨rfl, rfl⟩ (fun q4 => ?_)
          refine r_goto (tgt := 147) dX7_addRun_109 (by decide) ?_
          exact r_return dX7_addRun_147 rfl
  · refine r_aload_n_1 dX7_addRun_21 rfl ?_
    refine r_iload_w_8 dX7_addRun_22 ?_
    refine r_callSNI [] (am_X9_at p1 hp1 v10 d) cf_X9_at wn_X7_32 (by decide) dX7_addRun_24 rfl (Nat.le_of_ble_eq_true rfl) ⟨rfl, rfl⟩ (fun q5 => ?_)
    refine r_istore_w_x dX7_addRun_27 (by decide) rfl ?_
    refine r_lload_w_7 dX7_addRun_29 ?_
    refine r_bipush dX7_addRun_31 kb_8 ?_
    refine r_lshl dX7_addRun_33 ?_
    refine r_iload_w_0 dX7_addRun_34 ?_
    refine r_i2l dX7_addRun_36 ?_
    refine r_lor dX7_addRun_37 ?_
    refine r_bdJ (fun x6 => ?_)
    refine r_lstore_w_7 dX7_addRun_38 (by decide) rfl ?_
    refine r_iload_w_0 dX7_addRun_40 ?_
    refine r_callSI [] (am_X7_isDigit q5.1 q5.2) cf_X7_isDigit mw_X7_62 (by decide) dX7_addRun_42 rfl (Nat.le_of_ble_eq_true rfl) ⟨rfl, rfl⟩ (fun q7 => ?_)
    refine r_if_eq (tgt := 70) dX7_addRun_45 (by decide) ?_ ?_
    · refine r_iinc_5 dX7_addRun_70 ki_1 (by decide) rfl ?_
      refine r_iinc_9 dX7_addRun_73 ki_1 (by decide) rfl ?_
      refine r_goto (tgt := 15) dX7_addRun_76 (by decide) ?_
      refine r_sub [1, 2, 3, 4, 5, 6, 7, 8, 9] (lv' := [(0, .ref 45), (1, .ref p1), (2, .int v2), (3, .int v3), (4, .int (v4 + (1 : Int32))), (5, .int v5), (6, .long x6), (8, .long v8), (10, .int (v10 + (1 : Int32)))]) rfl ?_
      exact hk15 v2 v3 (v4 + (1 : Int32)) v5 x6 v8 (v10 + (1 : Int32)) q7.2
    · refine r_iinc_6 dX7_addRun_48 ki_1 (by decide) rfl ?_
      refine r_lload_w_8 dX7_addRun_51 ?_
      refine r_ldc2 dX7_addRun_53 kw_X7_65 ?_
      refine r_lmul dX7_addRun_56 ?_
      refine r_iload_w_0 dX7_addRun_57 ?_
      refine r_i2l dX7_addRun_59 ?_
      refine r_ladd dX7_addRun_60 ?_
      refine r_ldc2 dX7_addRun_61 kw_X7_67 ?_
      refine r_lsub dX7_addRun_64 ?_
      refine r_bdJ (fun x8 => ?_)
      refine r_lstore_w_8 dX7_addRun_65 (by decide) rfl ?_
      refine r_goto (tgt := 73) dX7_addRun_67 (by decide) ?_
      refine r_iinc_9 dX7_addRun_73 ki_1 (by decide) rfl ?_
      refine r_goto (tgt := 15) dX7_addRun_76 (by decide) ?_
      refine r_sub [1, 2, 3, 4, 5, 6, 7, 8, 9] (lv' := [(0, .ref 45), (1, .ref p1), (2, .int v2), (3, .int v3), (4, .int v4), (5, .int (v5 + (1 : Int32))), (6, .long x6), (8, .long x8), (10, .int (v10 + (1 : Int32)))]) rfl ?_
      exact hk15 v2 v3 v4 (v5 + (1 : Int32)) x6 x8 (v10 + (1 : Int32)) q7.2
theorem w_X7_addRun_15 {E : XE} (p1 : Nat) (hp1 : kd p1 = 0) (n : Nat) : ∀ (v2 : Int32) (v3 : Int32) (v4 : Int32) (v5 : Int32) (v6 : Int64) (v8 : Int64) (v10 : Int32) (d : DD), AW E si_X7_addRun 0 0 (QM E wrU) (f_X7_addRun_15 p1 n v2 v3 v4 v5 v6 v8 v10 d) 15 [(0, .ref 45), (1, .ref p1), (2, .int v2), (3, .int v3), (4, .int v4), (5, .int v5), (6, .long v6), (8, .long v8), (10, .int v10)] [] d := by
  induction n with
  | zero => intros; exact r_none
  | succ n ih => intro v2 v3 v4 v5 v6 v8 v10 d; exact w_X7_addRun_15B p1 hp1 (f_X7_addRun_15 p1 n) ih v2 v3 v4 v5 v6 v8 v10 d
def f_X7_addRun (p1 : Nat) (p2 : Int32) (p3 : Int32) (d : DD) : Option (Unit × DD) :=
  f_X7_addRun_15 p1 FU p2 p3 (0 : Int32) (0 : Int32) (0 : Int64) (0 : Int64) p2 d
set_option maxRecDepth 100000 in
set_option maxHeartbeats 4000000 in
theorem am_X7_addRun (p1 : Nat) (hp1 : kd p1 = 0) (p2 : Int32) (p3 : Int32) (d : DD) : AM wrU mi_X7_addRun 2 47 [.ref 45, .ref p1, .int p2, .int p3] d (f_X7_addRun p1 p2 p3 d) := by
  refine AM_intro (si := si_X7_addRun) (lv := [(0, .ref 45), (1, .ref p1), (2, .int p2), (3, .int p3)]) rfl (by decide +kernel) rfl (Nat.le_of_ble_eq_true rfl) (fun E => ?_)
  unfold f_X7_addRun
  refine r_iconst dX7_addRun_0 ki_0 ?_
  refine r_istore_w_x dX7_addRun_1 (by decide) rfl ?_
  refine r_iconst dX7_addRun_3 ki_0 ?_
  refine r_istore_w_x dX7_addRun_4 (by decide) rfl ?_
  refine r_lconst dX7_addRun_6 kl_0 ?_
  refine r_lstore_w_x dX7_addRun_7 (by decide) rfl ?_
  refine r_lconst dX7_addRun_9 kl_0 ?_
  refine r_lstore_w_x dX7_addRun_10 (by decide) rfl ?_
  refine r_iload_n_6 dX7_addRun_12 rfl ?_
  refine r_istore_w_x dX7_addRun_13 (by decide) rfl ?_
  refine r_sub [5, 6, 7, 8, 4, 3, 2, 1, 0] (lv' := [(0, .ref 45), (1, .ref p1), (2, .int p2), (3, .int p3), (4, .int (0 : Int32)), (5, .int (0 : Int32)), (6, .long (0 : Int64)), (8, .long (0 : Int64)), (10, .int p2)]) rfl ?_
  exact w_X7_addRun_15 p1 hp1 FU p2 p3 (0 : Int32) (0 : Int32) (0 : Int64) (0 : Int64) p2 d
theorem cf_X7_addRun : CFv mi_X7_addRun 3 := ⟨iw_X7_addRun, vw_X7_addRun, nw_X7, cw_X7_addRun, by unfold plainF; decide +kernel⟩
abbrev si_X7_scan : SI := (cX7_scan, RX7, 9, none, 3, 78)
def f_X7_scan_111 (p1 : Nat) (v2 : Int32) (v3 : Int32) (v4 : Int32) (d : DD) : Option (Unit × DD) :=
  if v3 < v2 then
  (f_X7_addToken (1 : Int32) v4 (0 : Int64) d).bind fun q4 =>
    some ((), q4.2)
  else
  (f_X7_addToken (0 : Int32) v4 (0 : Int64) d).bind fun q3 =>
    some ((), q3.2)
set_option maxRecDepth 100000 in
set_option maxHeartbeats 4000000 in
theorem w_X7_scan_111 {E : XE} (p1 : Nat) (hp1 : kd p1 = 0) (v2 : Int32) (v3 : Int32) (v4 : Int32) (d : DD) : AW E si_X7_scan 0 0 (QM E wrU) (f_X7_scan_111 p1 v2 v3 v4 d) 111 [(0, .ref 45), (2, .int v2), (3, .int v3), (4, .int v4)] [] d := by
  unfold f_X7_scan_111
  refine r_aload_n_0 dX7_scan_111 rfl ?_
  refine r_iload_n_1 dX7_scan_112 rfl ?_
  refine r_iload_n_2 dX7_scan_113 rfl ?_
  refine r_icmp_le (tgt := 121) dX7_scan_114 (by decide) ?_ ?_
  · refine r_iconst dX7_scan_121 ki_0 ?_
    refine r_iload_w_3 dX7_scan_122 ?_
    refine r_lconst dX7_scan_124 kl_0 ?_
    refine r_callVU (cc := 7) [] (am_X7_addToken (0 : Int32) v4 (0 : Int64) d) rfl rfl cf_X7_addToken mw_X7_36 (by decide) dX7_scan_125 rfl (Nat.le_of_ble_eq_true rfl) ⟨rfl, rfl⟩ (fun q3 => ?_)
    exact r_return dX7_scan_128 rfl
  · refine r_iconst dX7_scan_117 ki_1 ?_
    refine r_goto (tgt := 122) dX7_scan_118 (by decide) ?_
    refine r_iload_w_3 dX7_scan_122 ?_
    refine r_lconst dX7_scan_124 kl_0 ?_
    refine r_callVU (cc := 7) [] (am_X7_addToken (1 : Int32) v4 (0 : Int64) d) rfl rfl cf_X7_addToken mw_X7_36 (by decide) dX7_scan_125 rfl (Nat.le_of_ble_eq_true rfl) ⟨rfl, rfl⟩ (fun q4 => ?_)
    exact r_return dX7_scan_128 rfl
def f_X7_scan_18B (p1 : Nat) (k18 : Int32 → Int32 → Int32 → Int32 → Int32 → DD → Option (Unit × DD)) (v2 : Int32) (v3 : Int32) (v4 : Int32) (v5 : Int32) (v6 : Int32) (d : DD) : Option (Unit × DD) :=
  if v6 < (940 : Int32) then
  if v5 < v4 then
    (f_X9_at p1 v5 d).bind fun q5 =>
      if q5.1 = (59 : Int32) then
      (f_X7_addToken (2 : Int32) v5 (0 : Int64) q5.2).bind fun q9 =>
        k18 v2 v3 v4 (v5 + (1 : Int32)) (v6 + (1 : Int32)) q9.2
      else
      if q5.1 = (32 : Int32) then
        k18 v2 v3 v4 (v5 + (1 : Int32)) (v6 + (1 : Int32)) q5.2
        else
        if q5.1 = (10 : Int32) then
          k18 v2 v3 v4 (v5 + (1 : Int32)) (v6 + (1 : Int32)) q5.2
          else
          (f_X7_runEnd p1 v5 v2 q5.2).bind fun q6 =>
            (f_X7_addRun p1 v5 q6.1 q6.2).bind fun q7 =>
            bd (mxI v5 (q6.1 - (1 : Int32))) fun x8 =>
            k18 v2 v3 v4 (x8 + (1 : Int32)) (v6 + (1 : Int32)) q7.2
    else
    f_X7_scan_111 p1 v2 v3 v4 d
  else
  f_X7_scan_111 p1 v2 v3 v4 d
def f_X7_scan_18 (p1 : Nat) : Nat → Int32 → Int32 → Int32 → Int32 → Int32 → DD → Option (Unit × DD)
  | 0, _, _, _, _, _, _ => none
  | n + 1, v2, v3, v4, v5, v6, d => f_X7_scan_18B p1 (f_X7_scan_18 p1 n) v2 v3 v4 v5 v6 d
set_option maxRecDepth 100000 in
set_option maxHeartbeats 4000000 in
theorem w_X7_scan_18B {E : XE} (p1 : Nat) (hp1 : kd p1 = 0) (k18 : Int32 → Int32 → Int32 → Int32 → Int32 → DD → Option (Unit × DD)) (hk18 : ∀ (v2 : Int32) (v3 : Int32) (v4 : Int32) (v5 : Int32) (v6 : Int32) (d : DD), AW E si_X7_scan 0 0 (QM E wrU) (k18 v2 v3 v4 v5 v6 d) 18 [(0, .ref 45), (1, .ref p1), (2, .int v2), (3, .int v3), (4, .int v4), (5, .int v5), (6, .int v6)] [] d) (v2 : Int32) (v3 : Int32) (v4 : Int32) (v5 : Int32) (v6 : Int32) (d : DD) : AW E si_X7_scan 0 0 (QM E wrU) (f_X7_scan_18B p1 k18 v2 v3 v4 v5 v6 d) 18 [(0, .ref 45), (1, .ref p1), (2, .int v2), (3, .int v3), (4, .int v4), (5, .int v5), (6, .int v6)] [] d := by
  unfold f_X7_scan_18B
  refine r_iload_w_6 dX7_scan_18 ?_
  refine r_sipush dX7_scan_20 ks_940 ?_
  refine r_icmp_ge (tgt := 111) dX7_scan_23 (by decide) ?_ ?_
  · refine r_sub [0, 2, 3, 4] (lv' := [(0, .ref 45), (2, .int v2), (3, .int v3), (4, .int v4)]) rfl ?_
    exact w_X7_scan_111 p1 hp1 v2 v3 v4 d
  · refine r_iload_w_5 dX7_scan_26 ?_
    refine r_iload_w_4 dX7_scan_28 ?_
    refine r_icmp_ge (tgt := 111) dX7_scan_30 (by decide) ?_ ?_
    · refine r_sub [0, 2, 3, 4] (lv' := [(0, .ref 45), (2, .int v2), (3, .int v3), (4, .int v4)]) rfl ?_
      exact w_X7_scan_111 p1 hp1 v2 v3 v4 d
    · refine r_aload_n_1 dX7_scan_33 rfl ?_
      refine r_iload_w_5 dX7_scan_34 ?_
      refine r_callSNI [] (am_X9_at p1 hp1 v5 d) cf_X9_at wn_X7_32 (by decide) dX7_scan_36 rfl (Nat.le_of_ble_eq_true rfl) ⟨rfl, rfl⟩ (fun q5 => ?_)
      refine r_istore_w_x dX7_scan_39 (by decide) rfl ?_
      refine r_iload_w_0 dX7_scan_41 ?_
      refine r_bipush dX7_scan_43 kb_59 ?_
      refine r_icmp_ne (tgt := 59) dX7_scan_45 (by decide) ?_ ?_
      · refine r_iload_w_0 dX7_scan_59 ?_
        refine r_bipush dX7_scan_61 kb_32 ?_
        refine r_icmp_eq (tgt := 102) dX7_scan_63 (by decide) ?_ ?_
        · refine r_iinc_6 dX7_scan_102 ki_1 (by decide) rfl ?_
          refine r_iinc_7 dX7_scan_105 ki_1 (by decide) rfl ?_
          refine r_goto (tgt := 18) dX7_scan_108 (by decide) ?_
          refine r_sub [1, 2, 3, 4, 5, 6, 7] (lv' := [(0, .ref 45), (1, .ref p1), (2, .int v2), (3, .int v3), (4, .int v4), (5, .int (v5 + (1 : Int32))), (6, .int (v6 + (1 : Int32)))]) rfl ?_
          exact hk18 v2 v3 v4 (v5 + (1 : Int32)) (v6 + (1 : Int32)) q5.2
        · refine r_iload_w_0 dX7_scan_66 ?_
          refine r_bipush dX7_scan_68 kb_10 ?_
          refine r_icmp_eq (tgt := 102) dX7_scan_70 (by decide) ?_ ?_
          · refine r_iinc_6 dX7_scan_102 ki_1 (by decide) rfl ?_
            refine r_iinc_7 dX7_scan_105 ki_1 (by decide) rfl ?_
            refine r_goto (tgt := 18) dX7_scan_108 (by decide) ?_
            refine r_sub [1, 2, 3, 4, 5, 6, 7] (lv' := [(0, .ref 45), (1, .ref p1), (2, .int v2), (3, .int v3), (4, .int v4), (5, .int (v5 + (1 : Int32))), (6, .int (v6 + (1 : Int32)))]) rfl ?_
            exact hk18 v2 v3 v4 (v5 + (1 : Int32)) (v6 + (1 : Int32)) q5.2
          · refine r_aload_n_2 dX7_scan_73 rfl ?_
            refine r_iload_w_6 dX7_scan_74 ?_
            refine r_iload_n_3 dX7_scan_76 rfl ?_
            refine r_callSI [] (am_X7_runEnd p1 hp1 v5 v2 q5.2) cf_X7_runEnd mw_X7_40 (by decide) dX7_scan_77 rfl (Nat.le_of_ble_eq_true rfl) ⟨rfl, rfl⟩ (fun q6 => ?_)
            refine r_istore_w_x dX7_scan_80 (by decide) rfl ?_
            refine r_aload_n_2 dX7_scan_82 rfl ?_
            refine r_aload_n_3 dX7_scan_83 rfl ?_
            refine r_iload_w_7 dX7_scan_84 ?_
            refine r_iload_w_0 dX7_scan_86 ?_
            refine r_callVU (cc := 7) [] (am_X7_addRun p1 hp1 v5 q6.1 q6.2) rfl rfl cf_X7_addRun mw_X7_44 (by decide) dX7_scan_88 rfl (Nat.le_of_ble_eq_true rfl) ⟨rfl, rfl⟩ (fun q7 => ?_)
            refine r_iload_w_7 dX7_scan_91 ?_
            refine r_iload_w_0 dX7_scan_93 ?_
            refine r_iconst dX7_scan_95 ki_1 ?_
            refine r_isub dX7_scan_96 ?_
            refine r_mxI [] mw_X7_48 (by decide) dX7_scan_97 (Nat.le_of_ble_eq_true rfl) ⟨rfl, rfl⟩ ?_
            refine r_bdI (fun x8 => ?_)
            refine r_istore_w_7 dX7_scan_100 (by decide) rfl ?_
            refine r_iinc_7 dX7_scan_102 ki_1 (by decide) rfl ?_
            refine r_iinc_8 dX7_scan_105 ki_1 (by decide) rfl ?_
            refine r_goto (tgt := 18) dX7_scan_108 (by decide) ?_
            refine r_sub [2, 3, 4, 5, 6, 7, 8] (lv' := [(0, .ref 45), (1, .ref p1), (2, .int v2), (3, .int v3), (4, .int v4), (5, .int (x8 + (1 : Int32))), (6, .int (v6 + (1 : Int32)))]) rfl ?_
            exact hk18 v2 v3 v4 (x8 + (1 : Int32)) (v6 + (1 : Int32)) q7.2
      · refine r_aload_n_1 dX7_scan_48 rfl ?_
        refine r_iconst dX7_scan_49 ki_2 ?_
        refine r_iload_w_6 dX7_scan_50 ?_
        refine r_lconst dX7_scan_52 kl_0 ?_
        refine r_callVU (cc := 7) [] (am_X7_addToken (2 : Int32) v5 (0 : Int64) q5.2) rfl rfl cf_X7_addToken mw_X7_36 (by decide) dX7_scan_53 rfl (Nat.le_of_ble_eq_true rfl) ⟨rfl, rfl⟩ (fun q9 => ?_)
        refine r_goto (tgt := 102) dX7_scan_56 (by decide) ?_
        refine r_iinc_6 dX7_scan_102 ki_1 (by decide) rfl ?_
        refine r_iinc_7 dX7_scan_105 ki_1 (by decide) rfl ?_
        refine r_goto (tgt := 18) dX7_scan_108 (by decide) ?_
        refine r_sub [1, 2, 3, 4, 5, 6, 7] (lv' := [(0, .ref 45), (1, .ref p1), (2, .int v2), (3, .int v3), (4, .int v4), (5, .int (v5 + (1 : Int32))), (6, .int (v6 + (1 : Int32)))]) rfl ?_
        exact hk18 v2 v3 v4 (v5 + (1 : Int32)) (v6 + (1 : Int32)) q9.2
theorem w_X7_scan_18 {E : XE} (p1 : Nat) (hp1 : kd p1 = 0) (n : Nat) : ∀ (v2 : Int32) (v3 : Int32) (v4 : Int32) (v5 : Int32) (v6 : Int32) (d : DD), AW E si_X7_scan 0 0 (QM E wrU) (f_X7_scan_18 p1 n v2 v3 v4 v5 v6 d) 18 [(0, .ref 45), (1, .ref p1), (2, .int v2), (3, .int v3), (4, .int v4), (5, .int v5), (6, .int v6)] [] d := by
  induction n with
  | zero => intros; exact r_none
  | succ n ih => intro v2 v3 v4 v5 v6 d; exact w_X7_scan_18B p1 hp1 (f_X7_scan_18 p1 n) ih v2 v3 v4 v5 v6 d
def f_X7_scan (p1 : Nat) (p2 : Int32) (p3 : Int32) (d : DD) : Option (Unit × DD) :=
  bd (u1 d 45 0 (0 : Int32)) fun d1 =>
  bd (mnI p2 p3) fun x2 =>
  f_X7_scan_18 p1 FU p2 p3 x2 (0 : Int32) (0 : Int32) d1
set_option maxRecDepth 100000 in
set_option maxHeartbeats 4000000 in
theorem am_X7_scan (p1 : Nat) (hp1 : kd p1 = 0) (p2 : Int32) (p3 : Int32) (d : DD) : AM wrU mi_X7_scan 3 78 [.ref 45, .ref p1, .int p2, .int p3] d (f_X7_scan p1 p2 p3 d) := by
  refine AM_intro (si := si_X7_scan) (lv := [(0, .ref 45), (1, .ref p1), (2, .int p2), (3, .int p3)]) rfl (by decide +kernel) rfl (Nat.le_of_ble_eq_true rfl) (fun E => ?_)
  unfold f_X7_scan
  refine r_aload_n_0 dX7_scan_0 rfl ?_
  refine r_iconst dX7_scan_1 ki_0 ?_
  refine r_puti (cc := 7) 0 tyX7 tyX7_ok nmX7 rfl (by decide +kernel) rfl rfl uX7 (by decide) rfl fw_X7_9 dX7_scan_2 ?_
  refine r_bd (fun d1 => ?_)
  refine r_iload_n_2 dX7_scan_5 rfl ?_
  refine r_iload_n_3 dX7_scan_6 rfl ?_
  refine r_mnI [] mw_X7_26 (by decide) dX7_scan_7 (Nat.le_of_ble_eq_true rfl) ⟨rfl, rfl⟩ ?_
  refine r_bdI (fun x2 => ?_)
  refine r_istore_w_x dX7_scan_10 (by decide) rfl ?_
  refine r_iconst dX7_scan_12 ki_0 ?_
  refine r_istore_w_x dX7_scan_13 (by decide) rfl ?_
  refine r_iconst dX7_scan_15 ki_0 ?_
  refine r_istore_w_x dX7_scan_16 (by decide) rfl ?_
  refine r_sub [3, 4, 5, 6, 2, 1, 0] (lv' := [(0, .ref 45), (1, .ref p1), (2, .int p2), (3, .int p3), (4, .int x2), (5, .int (0 : Int32)), (6, .int (0 : Int32))]) rfl ?_
  exact w_X7_scan_18 p1 hp1 FU p2 p3 x2 (0 : Int32) (0 : Int32) d1
theorem cf_X7_scan : CFv mi_X7_scan 3 := ⟨iw_X7_scan, vw_X7_scan, nw_X7, cw_X7_scan, by unfold plainF; decide +kernel⟩
abbrev si_X0_begin : SI := (cX0_begin, RX0, 4, none, 4, 106)
def f_X0_begin (p1 : Nat) (p2 : Int32) (p3 : Int32) (d : DD) : Option (Unit × DD) :=
  (f_X7_scan p1 p2 p3 d).bind fun q1 =>
  bd (u1 q1.2 44 1 (0 : Int32)) fun d2 =>
  bd (u1 d2 44 2 (0 : Int32)) fun d3 =>
  bd (u1 d3 44 3 (0 : Int32)) fun d4 =>
  some ((), d4)
set_option maxRecDepth 100000 in
set_option maxHeartbeats 4000000 in
theorem am_X0_begin (p1 : Nat) (hp1 : kd p1 = 0) (p2 : Int32) (p3 : Int32) (d : DD) : AM wrU mi_X0_begin 4 106 [.ref 44, .ref p1, .int p2, .int p3] d (f_X0_begin p1 p2 p3 d) := by
  refine AM_intro (si := si_X0_begin) (lv := [(0, .ref 44), (1, .ref p1), (2, .int p2), (3, .int p3)]) rfl (by decide +kernel) rfl (Nat.le_of_ble_eq_true rfl) (fun E => ?_)
  unfold f_X0_begin
  refine r_aload_n_0 dX0_begin_0 rfl ?_
  refine r_getr (t := 45) (cc := 0) 0 rfl rfl uX0 (by decide) rfl fw_X0_12 rfl dX0_begin_1 ?_
  refine r_aload_n_1 dX0_begin_4 rfl ?_
  refine r_iload_n_2 dX0_begin_5 rfl ?_
  refine r_iload_n_3 dX0_begin_6 rfl ?_
  refine r_callVU (cc := 7) [] (am_X7_scan p1 hp1 p2 p3 d) rfl rfl cf_X7_scan mw_X0_28 (by decide) dX0_begin_7 rfl (Nat.le_of_ble_eq_true rfl) ⟨rfl, rfl⟩ (fun q1 => ?_)
  refine r_aload_n_0 dX0_begin_10 rfl ?_
  refine r_iconst dX0_begin_11 ki_0 ?_
  refine r_puti (cc := 0) 1 tyX0 tyX0_ok nmX0 rfl (by decide +kernel) rfl rfl uX0 (by decide) rfl fw_X0_18 dX0_begin_12 ?_
  refine r_bd (fun d2 => ?_)
  refine r_aload_n_0 dX0_begin_15 rfl ?_
  refine r_iconst dX0_begin_16 ki_0 ?_
  refine r_puti (cc := 0) 2 tyX0 tyX0_ok nmX0 rfl (by decide +kernel) rfl rfl uX0 (by decide) rfl fw_X0_22 dX0_begin_17 ?_
  refine r_bd (fun d3 => ?_)
  refine r_aload_n_0 dX0_begin_20 rfl ?_
  refine r_iconst dX0_begin_21 ki_0 ?_
  refine r_puti (cc := 0) 3 tyX0 tyX0_ok nmX0 rfl (by decide +kernel) rfl rfl uX0 (by decide) rfl fw_X0_25 dX0_begin_22 ?_
  refine r_bd (fun d4 => ?_)
  exact r_return dX0_begin_25 rfl
theorem cf_X0_begin : CFv mi_X0_begin 3 := ⟨iw_X0_begin, vw_X0_begin, nw_X0, cw_X0_begin, by unfold plainF; decide +kernel⟩
abbrev si_X0_sort : SI := (cX0_sort, RX0, 1, (some .int), 1, 21)
def f_X0_sort (d : DD) : Option (Int32 × DD) :=
  (f_X9_at 46 (d.1 44 1) d).bind fun q1 =>
  some (q1.1, q1.2)
set_option maxRecDepth 100000 in
set_option maxHeartbeats 4000000 in
theorem am_X0_sort (d : DD) : AM wrI mi_X0_sort 1 21 [.ref 44] d (f_X0_sort d) := by
  refine AM_intro (si := si_X0_sort) (lv := [(0, .ref 44)]) rfl (by decide +kernel) rfl (Nat.le_of_ble_eq_true rfl) (fun E => ?_)
  unfold f_X0_sort
  refine r_aload_n_0 dX0_sort_0 rfl ?_
  refine r_getr (t := 45) (cc := 0) 0 rfl rfl uX0 (by decide) rfl fw_X0_12 rfl dX0_sort_1 ?_
  refine r_getr (t := 46) (cc := 7) 1 rfl rfl uX7 (by decide) rfl fw_X0_32 rfl dX0_sort_4 ?_
  refine r_aload_n_0 dX0_sort_7 rfl ?_
  refine r_geti (cc := 0) 1 rfl rfl uX0 (by decide) rfl fw_X0_18 dX0_sort_8 ?_
  refine r_callSNI [] (am_X9_at 46 rfl (d.1 44 1) d) cf_X9_at wn_X0_36 (by decide) dX0_sort_11 rfl (Nat.le_of_ble_eq_true rfl) ⟨rfl, rfl⟩ (fun q1 => ?_)
  exact r_ireturn dX0_sort_14 rfl
theorem cf_X0_sort : CFv mi_X0_sort 0 := ⟨iw_X0_sort, vw_X0_sort, nw_X0, cw_X0_sort, by unfold plainF; decide +kernel⟩
abbrev si_X0_refuse : SI := (cX0_refuse, RX0, 2, (some .int), 1, 21)
def f_X0_refuse (p1 : Int32) (d : DD) : Option (Int32 × DD) :=
  bd (u1 d 44 2 p1) fun d1 =>
  (f_X9_at 47 (d1.1 44 1) d1).bind fun q2 =>
  bd (u1 q2.2 44 3 q2.1) fun d3 =>
  some ((-1 : Int32), d3)
set_option maxRecDepth 100000 in
set_option maxHeartbeats 4000000 in
theorem am_X0_refuse (p1 : Int32) (d : DD) : AM wrI mi_X0_refuse 1 21 [.ref 44, .int p1] d (f_X0_refuse p1 d) := by
  refine AM_intro (si := si_X0_refuse) (lv := [(0, .ref 44), (1, .int p1)]) rfl (by decide +kernel) rfl (Nat.le_of_ble_eq_true rfl) (fun E => ?_)
  unfold f_X0_refuse
  refine r_aload_n_0 dX0_refuse_0 rfl ?_
  refine r_iload_n_1 dX0_refuse_1 rfl ?_
  refine r_puti (cc := 0) 2 tyX0 tyX0_ok nmX0 rfl (by decide +kernel) rfl rfl uX0 (by decide) rfl fw_X0_22 dX0_refuse_2 ?_
  refine r_bd (fun d1 => ?_)
  refine r_aload_n_0 dX0_refuse_5 rfl ?_
  refine r_aload_n_0 dX0_refuse_6 rfl ?_
  refine r_getr (t := 45) (cc := 0) 0 rfl rfl uX0 (by decide) rfl fw_X0_12 rfl dX0_refuse_7 ?_
  refine r_getr (t := 47) (cc := 7) 2 rfl rfl uX7 (by decide) rfl fw_X0_48 rfl dX0_refuse_10 ?_
  refine r_aload_n_0 dX0_refuse_13 rfl ?_
  refine r_geti (cc := 0) 1 rfl rfl uX0 (by decide) rfl fw_X0_18 dX0_refuse_14 ?_
  refine r_callSNI [.ref 44] (am_X9_at 47 rfl (d1.1 44 1) d1) cf_X9_at wn_X0_36 (by decide) dX0_refuse_17 rfl (Nat.le_of_ble_eq_true rfl) ⟨rfl, rfl⟩ (fun q2 => ?_)
  refine r_puti (cc := 0) 3 tyX0 tyX0_ok nmX0 rfl (by decide +kernel) rfl rfl uX0 (by decide) rfl fw_X0_25 dX0_refuse_20 ?_
  refine r_bd (fun d3 => ?_)
  refine r_iconst dX0_refuse_23 ki_m1 ?_
  exact r_ireturn dX0_refuse_24 rfl
theorem cf_X0_refuse : CFv mi_X0_refuse 1 := ⟨iw_X0_refuse, vw_X0_refuse, nw_X0, cw_X0_refuse, by unfold plainF; decide +kernel⟩
abbrev si_X9_longAt : SI := (cX9_longAt, RX9, 2, (some .long), 0, 0)
def f_X9_longAt (p0 : Nat) (p1 : Int32) (d : DD) : Option (Int64 × DD) :=
  if p1 < 0 then
  some ((0 : Int64), d)
  else
  if p1 < (Int32.ofNat (ln p0)) then
    if ixb p1 (ln p0) then
      some (d.2 p0 p1.toNatClampNeg, d)
      else none
    else
    some ((0 : Int64), d)
set_option maxRecDepth 100000 in
set_option maxHeartbeats 4000000 in
theorem am_X9_longAt (p0 : Nat) (hp0 : kd p0 = 1) (p1 : Int32) (d : DD) : AM wrL mi_X9_longAt 0 0 [.ref p0, .int p1] d (f_X9_longAt p0 p1 d) := by
  refine AM_intro (si := si_X9_longAt) (lv := [(0, .ref p0), (1, .int p1)]) rfl (by decide +kernel) rfl (Nat.le_of_ble_eq_true rfl) (fun E => ?_)
  unfold f_X9_longAt
  refine r_aload_n_0 dX9_longAt_0 rfl ?_
  refine r_ifnull dX9_longAt_1 ?_
  refine r_iload_n_1 dX9_longAt_4 rfl ?_
  refine r_if_lt (tgt := 20) dX9_longAt_5 (by decide) ?_ ?_
  · refine r_lconst dX9_longAt_20 kl_0 ?_
    exact r_lreturn dX9_longAt_21 rfl
  · refine r_iload_n_1 dX9_longAt_8 rfl ?_
    refine r_aload_n_0 dX9_longAt_9 rfl ?_
    refine r_alenl hp0 dX9_longAt_10 ?_
    refine r_icmp_ge (tgt := 20) dX9_longAt_11 (by decide) ?_ ?_
    · refine r_lconst dX9_longAt_20 kl_0 ?_
      exact r_lreturn dX9_longAt_21 rfl
    · refine r_aload_n_0 dX9_longAt_14 rfl ?_
      refine r_iload_n_1 dX9_longAt_15 rfl ?_
      refine r_laload hp0 dX9_longAt_16 ?_
      refine r_goto (tgt := 21) dX9_longAt_17 (by decide) ?_
      exact r_lreturn dX9_longAt_21 rfl
theorem cf_X9_longAt : CFs mi_X9_longAt 2 := ⟨sw_X9_longAt, nw_X9, cw_X9_longAt, by unfold plainF; decide +kernel⟩
abbrev si_X0_value : SI := (cX0_value, RX0, 1, (some .long), 1, 21)
def f_X0_value (d : DD) : Option (Int64 × DD) :=
  (f_X9_longAt 48 (d.1 44 1) d).bind fun q1 =>
  some (q1.1, q1.2)
set_option maxRecDepth 100000 in
set_option maxHeartbeats 4000000 in
theorem am_X0_value (d : DD) : AM wrL mi_X0_value 1 21 [.ref 44] d (f_X0_value d) := by
  refine AM_intro (si := si_X0_value) (lv := [(0, .ref 44)]) rfl (by decide +kernel) rfl (Nat.le_of_ble_eq_true rfl) (fun E => ?_)
  unfold f_X0_value
  refine r_aload_n_0 dX0_value_0 rfl ?_
  refine r_getr (t := 45) (cc := 0) 0 rfl rfl uX0 (by decide) rfl fw_X0_12 rfl dX0_value_1 ?_
  refine r_getr (t := 48) (cc := 7) 3 rfl rfl uX7 (by decide) rfl fw_X0_40 rfl dX0_value_4 ?_
  refine r_aload_n_0 dX0_value_7 rfl ?_
  refine r_geti (cc := 0) 1 rfl rfl uX0 (by decide) rfl fw_X0_18 dX0_value_8 ?_
  refine r_callSNL [] (am_X9_longAt 48 rfl (d.1 44 1) d) cf_X9_longAt wn_X0_44 (by decide) dX0_value_11 rfl (Nat.le_of_ble_eq_true rfl) ⟨rfl, rfl⟩ (fun q1 => ?_)
  exact r_lreturn dX0_value_14 rfl
theorem cf_X0_value : CFv mi_X0_value 0 := ⟨iw_X0_value, vw_X0_value, nw_X0, cw_X0_value, by unfold plainF; decide +kernel⟩
abbrev si_X1_kindOf : SI := (cX1_kindOf, RX1, 4, (some .int), 1, 21)
def f_X1_kindOf_2B (p0 : Nat) (k2 : Int64 → Int32 → DD → Option (Int32 × DD)) (v1 : Int64) (v3 : Int32) (d : DD) : Option (Int32 × DD) :=
  if v3 < (d.1 p0 0) then
  (f_X9_longAt (rf p0 2) v3 d).bind fun q1 =>
    if q1.1 = v1 then
    some (v3, q1.2)
    else
    k2 v1 (v3 + (1 : Int32)) q1.2
  else
  some ((-1 : Int32), d)
def f_X1_kindOf_2 (p0 : Nat) : Nat → Int64 → Int32 → DD → Option (Int32 × DD)
  | 0, _, _, _ => none
  | n + 1, v1, v3, d => f_X1_kindOf_2B p0 (f_X1_kindOf_2 p0 n) v1 v3 d
set_option maxRecDepth 100000 in
set_option maxHeartbeats 4000000 in
theorem w_X1_kindOf_2B {E : XE} (p0 : Nat) (hp0 : kd p0 = 5) (k2 : Int64 → Int32 → DD → Option (Int32 × DD)) (hk2 : ∀ (v1 : Int64) (v3 : Int32) (d : DD), AW E si_X1_kindOf 0 0 (QM E wrI) (k2 v1 v3 d) 2 [(0, .ref p0), (1, .long v1), (3, .int v3)] [] d) (v1 : Int64) (v3 : Int32) (d : DD) : AW E si_X1_kindOf 0 0 (QM E wrI) (f_X1_kindOf_2B p0 k2 v1 v3 d) 2 [(0, .ref p0), (1, .long v1), (3, .int v3)] [] d := by
  unfold f_X1_kindOf_2B
  refine r_iload_n_2 dX1_kindOf_2 rfl ?_
  refine r_aload_n_0 dX1_kindOf_3 rfl ?_
  refine r_geti (cc := 1) 0 hp0 rfl uX1 (by decide) rfl fw_X1_9 dX1_kindOf_4 ?_
  refine r_icmp_ge (tgt := 31) dX1_kindOf_7 (by decide) ?_ ?_
  · refine r_iconst dX1_kindOf_31 ki_m1 ?_
    exact r_ireturn dX1_kindOf_32 rfl
  · refine r_aload_n_0 dX1_kindOf_10 rfl ?_
    refine r_getr (t := (rf p0 2)) (cc := 1) 2 hp0 rfl uX1 (by decide) rfl fw_X1_18 rfl dX1_kindOf_11 ?_
    refine r_iload_n_2 dX1_kindOf_14 rfl ?_
    refine r_callSNL [] (am_X9_longAt (rf p0 2) (kr_1_2 hp0) v3 d) cf_X9_longAt wn_X1_83 (by decide) dX1_kindOf_15 rfl (Nat.le_of_ble_eq_true rfl) ⟨rfl, rfl⟩ (fun q1 => ?_)
    refine r_lload_n_1 dX1_kindOf_18 rfl ?_
    refine r_lcmp_ne (tgt := 25) dX1_kindOf_19 dX1_kindOf_20 (by decide) ?_ ?_
    · refine r_iinc_2 dX1_kindOf_25 ki_1 (by decide) rfl ?_
      refine r_goto (tgt := 2) dX1_kindOf_28 (by decide) ?_
      exact hk2 v1 (v3 + (1 : Int32)) q1.2
    · refine r_iload_n_2 dX1_kindOf_23 rfl ?_
      exact r_ireturn dX1_kindOf_24 rfl
theorem w_X1_kindOf_2 {E : XE} (p0 : Nat) (hp0 : kd p0 = 5) (n : Nat) : ∀ (v1 : Int64) (v3 : Int32) (d : DD), AW E si_X1_kindOf 0 0 (QM E wrI) (f_X1_kindOf_2 p0 n v1 v3 d) 2 [(0, .ref p0), (1, .long v1), (3, .int v3)] [] d := by
  induction n with
  | zero => intros; exact r_none
  | succ n ih => intro v1 v3 d; exact w_X1_kindOf_2B p0 hp0 (f_X1_kindOf_2 p0 n) ih v1 v3 d
def f_X1_kindOf (p0 : Nat) (p1 : Int64) (d : DD) : Option (Int32 × DD) :=
  f_X1_kindOf_2 p0 FU p1 (0 : Int32) d
set_option maxRecDepth 100000 in
set_option maxHeartbeats 4000000 in
theorem am_X1_kindOf (p0 : Nat) (hp0 : kd p0 = 5) (p1 : Int64) (d : DD) : AM wrI mi_X1_kindOf 1 21 [.ref p0, .long p1] d (f_X1_kindOf p0 p1 d) := by
  refine AM_intro (si := si_X1_kindOf) (lv := [(0, .ref p0), (1, .long p1)]) rfl (by decide +kernel) rfl (Nat.le_of_ble_eq_true rfl) (fun E => ?_)
  unfold f_X1_kindOf
  refine r_iconst dX1_kindOf_0 ki_0 ?_
  refine r_istore_n_x dX1_kindOf_1 rfl (by decide) rfl ?_
  refine r_sub [1, 2, 0] (lv' := [(0, .ref p0), (1, .long p1), (3, .int (0 : Int32))]) rfl ?_
  exact w_X1_kindOf_2 p0 hp0 FU p1 (0 : Int32) d
theorem cf_X1_kindOf : CFv mi_X1_kindOf 1 := ⟨iw_X1_kindOf, vw_X1_kindOf, nw_X1, cw_X1_kindOf, by unfold plainF; decide +kernel⟩
abbrev si_X0_peekKind : SI := (cX0_peekKind, RX0, 3, (some .int), 2, 44)
def f_X0_peekKind (p1 : Nat) (d : DD) : Option (Int32 × DD) :=
  (f_X0_sort d).bind fun q1 =>
  if q1.1 = (4 : Int32) then
  (f_X0_value q1.2).bind fun q2 =>
    (f_X1_kindOf p1 q2.1 q2.2).bind fun q3 =>
    if q3.1 = (-1 : Int32) then
    (f_X0_refuse (3 : Int32) q3.2).bind fun q4 =>
      some (q4.1, q4.2)
    else
    some (q3.1, q3.2)
  else
  (f_X0_refuse (1 : Int32) q1.2).bind fun q5 =>
    some (q5.1, q5.2)
set_option maxRecDepth 100000 in
set_option maxHeartbeats 4000000 in
theorem am_X0_peekKind (p1 : Nat) (hp1 : kd p1 = 5) (d : DD) : AM wrI mi_X0_peekKind 2 44 [.ref 44, .ref p1] d (f_X0_peekKind p1 d) := by
  refine AM_intro (si := si_X0_peekKind) (lv := [(0, .ref 44), (1, .ref p1)]) rfl (by decide +kernel) rfl (Nat.le_of_ble_eq_true rfl) (fun E => ?_)
  unfold f_X0_peekKind
  refine r_aload_n_0 dX0_peekKind_0 rfl ?_
  refine r_callVI (cc := 0) [] (am_X0_sort d) rfl rfl cf_X0_sort mw_X0_51 (by decide) dX0_peekKind_1 rfl (Nat.le_of_ble_eq_true rfl) ⟨rfl, rfl⟩ (fun q1 => ?_)
  refine r_iconst dX0_peekKind_4 ki_4 ?_
  refine r_icmp_eq (tgt := 14) dX0_peekKind_5 (by decide) ?_ ?_
  · refine r_aload_n_1 dX0_peekKind_14 rfl ?_
    refine r_aload_n_0 dX0_peekKind_15 rfl ?_
    refine r_callVL (cc := 0) [.ref p1] (am_X0_value q1.2) rfl rfl cf_X0_value mw_X0_59 (by decide) dX0_peekKind_16 rfl (Nat.le_of_ble_eq_true rfl) ⟨rfl, rfl⟩ (fun q2 => ?_)
    refine r_callVI (cc := 1) [] (am_X1_kindOf p1 hp1 q2.1 q2.2) hp1 rfl cf_X1_kindOf mw_X0_73 (by decide) dX0_peekKind_19 rfl (Nat.le_of_ble_eq_true rfl) ⟨rfl, rfl⟩ (fun q3 => ?_)
    refine r_istore_n_x dX0_peekKind_22 rfl (by decide) rfl ?_
    refine r_iload_n_0 dX0_peekKind_23 rfl ?_
    refine r_iconst dX0_peekKind_24 ki_m1 ?_
    refine r_icmp_ne (tgt := 36) dX0_peekKind_25 (by decide) ?_ ?_
    · refine r_iload_n_0 dX0_peekKind_36 rfl ?_
      exact r_ireturn dX0_peekKind_37 rfl
    · refine r_aload_n_1 dX0_peekKind_28 rfl ?_
      refine r_iconst dX0_peekKind_29 ki_3 ?_
      refine r_callVI (cc := 0) [] (am_X0_refuse (3 : Int32) q3.2) rfl rfl cf_X0_refuse mw_X0_55 (by decide) dX0_peekKind_30 rfl (Nat.le_of_ble_eq_true rfl) ⟨rfl, rfl⟩ (fun q4 => ?_)
      refine r_goto (tgt := 37) dX0_peekKind_33 (by decide) ?_
      exact r_ireturn dX0_peekKind_37 rfl
  · refine r_aload_n_0 dX0_peekKind_8 rfl ?_
    refine r_iconst dX0_peekKind_9 ki_1 ?_
    refine r_callVI (cc := 0) [] (am_X0_refuse (1 : Int32) q1.2) rfl rfl cf_X0_refuse mw_X0_55 (by decide) dX0_peekKind_10 rfl (Nat.le_of_ble_eq_true rfl) ⟨rfl, rfl⟩ (fun q5 => ?_)
    exact r_ireturn dX0_peekKind_13 rfl
theorem cf_X0_peekKind : CFv mi_X0_peekKind 1 := ⟨iw_X0_peekKind, vw_X0_peekKind, nw_X0, cw_X0_peekKind, by unfold plainF; decide +kernel⟩
abbrev si_X1_personOf : SI := (cX1_personOf, RX1, 4, (some .int), 1, 21)
def f_X1_personOf_2B (p0 : Nat) (k2 : Int64 → Int32 → DD → Option (Int32 × DD)) (v1 : Int64) (v3 : Int32) (d : DD) : Option (Int32 × DD) :=
  if v3 < (d.1 p0 1) then
  (f_X9_longAt (rf p0 6) v3 d).bind fun q1 =>
    if q1.1 = v1 then
    some (v3, q1.2)
    else
    k2 v1 (v3 + (1 : Int32)) q1.2
  else
  some ((-1 : Int32), d)
def f_X1_personOf_2 (p0 : Nat) : Nat → Int64 → Int32 → DD → Option (Int32 × DD)
  | 0, _, _, _ => none
  | n + 1, v1, v3, d => f_X1_personOf_2B p0 (f_X1_personOf_2 p0 n) v1 v3 d
set_option maxRecDepth 100000 in
set_option maxHeartbeats 4000000 in
theorem w_X1_personOf_2B {E : XE} (p0 : Nat) (hp0 : kd p0 = 5) (k2 : Int64 → Int32 → DD → Option (Int32 × DD)) (hk2 : ∀ (v1 : Int64) (v3 : Int32) (d : DD), AW E si_X1_personOf 0 0 (QM E wrI) (k2 v1 v3 d) 2 [(0, .ref p0), (1, .long v1), (3, .int v3)] [] d) (v1 : Int64) (v3 : Int32) (d : DD) : AW E si_X1_personOf 0 0 (QM E wrI) (f_X1_personOf_2B p0 k2 v1 v3 d) 2 [(0, .ref p0), (1, .long v1), (3, .int v3)] [] d := by
  unfold f_X1_personOf_2B
  refine r_iload_n_2 dX1_personOf_2 rfl ?_
  refine r_aload_n_0 dX1_personOf_3 rfl ?_
  refine r_geti (cc := 1) 1 hp0 rfl uX1 (by decide) rfl fw_X1_15 dX1_personOf_4 ?_
  refine r_icmp_ge (tgt := 31) dX1_personOf_7 (by decide) ?_ ?_
  · refine r_iconst dX1_personOf_31 ki_m1 ?_
    exact r_ireturn dX1_personOf_32 rfl
  · refine r_aload_n_0 dX1_personOf_10 rfl ?_
    refine r_getr (t := (rf p0 6)) (cc := 1) 6 hp0 rfl uX1 (by decide) rfl fw_X1_32 rfl dX1_personOf_11 ?_
    refine r_iload_n_2 dX1_personOf_14 rfl ?_
    refine r_callSNL [] (am_X9_longAt (rf p0 6) (kr_1_6 hp0) v3 d) cf_X9_longAt wn_X1_83 (by decide) dX1_personOf_15 rfl (Nat.le_of_ble_eq_true rfl) ⟨rfl, rfl⟩ (fun q1 => ?_)
    refine r_lload_n_1 dX1_personOf_18 rfl ?_
    refine r_lcmp_ne (tgt := 25) dX1_personOf_19 dX1_personOf_20 (by decide) ?_ ?_
    · refine r_iinc_2 dX1_personOf_25 ki_1 (by decide) rfl ?_
      refine r_goto (tgt := 2) dX1_personOf_28 (by decide) ?_
      exact hk2 v1 (v3 + (1 : Int32)) q1.2
    · refine r_iload_n_2 dX1_personOf_23 rfl ?_
      exact r_ireturn dX1_personOf_24 rfl
theorem w_X1_personOf_2 {E : XE} (p0 : Nat) (hp0 : kd p0 = 5) (n : Nat) : ∀ (v1 : Int64) (v3 : Int32) (d : DD), AW E si_X1_personOf 0 0 (QM E wrI) (f_X1_personOf_2 p0 n v1 v3 d) 2 [(0, .ref p0), (1, .long v1), (3, .int v3)] [] d := by
  induction n with
  | zero => intros; exact r_none
  | succ n ih => intro v1 v3 d; exact w_X1_personOf_2B p0 hp0 (f_X1_personOf_2 p0 n) ih v1 v3 d
def f_X1_personOf (p0 : Nat) (p1 : Int64) (d : DD) : Option (Int32 × DD) :=
  f_X1_personOf_2 p0 FU p1 (0 : Int32) d
set_option maxRecDepth 100000 in
set_option maxHeartbeats 4000000 in
theorem am_X1_personOf (p0 : Nat) (hp0 : kd p0 = 5) (p1 : Int64) (d : DD) : AM wrI mi_X1_personOf 1 21 [.ref p0, .long p1] d (f_X1_personOf p0 p1 d) := by
  refine AM_intro (si := si_X1_personOf) (lv := [(0, .ref p0), (1, .long p1)]) rfl (by decide +kernel) rfl (Nat.le_of_ble_eq_true rfl) (fun E => ?_)
  unfold f_X1_personOf
  refine r_iconst dX1_personOf_0 ki_0 ?_
  refine r_istore_n_x dX1_personOf_1 rfl (by decide) rfl ?_
  refine r_sub [1, 2, 0] (lv' := [(0, .ref p0), (1, .long p1), (3, .int (0 : Int32))]) rfl ?_
  exact w_X1_personOf_2 p0 hp0 FU p1 (0 : Int32) d
theorem cf_X1_personOf : CFv mi_X1_personOf 1 := ⟨iw_X1_personOf, vw_X1_personOf, nw_X1, cw_X1_personOf, by unfold plainF; decide +kernel⟩
abbrev si_X0_peekNewName : SI := (cX0_peekNewName, RX0, 2, (some .boolean), 2, 44)
def f_X0_peekNewName_40 (p1 : Nat) (d : DD) : Option (Int32 × DD) :=
  (f_X0_refuse (3 : Int32) d).bind fun q4 =>
  some ((0 : Int32), q4.2)
set_option maxRecDepth 100000 in
set_option maxHeartbeats 4000000 in
theorem w_X0_peekNewName_40 {E : XE} (p1 : Nat) (hp1 : kd p1 = 5) (d : DD) : AW E si_X0_peekNewName 0 0 (QM E wrI) (f_X0_peekNewName_40 p1 d) 40 [(0, .ref 44)] [] d := by
  unfold f_X0_peekNewName_40
  refine r_aload_n_0 dX0_peekNewName_40 rfl ?_
  refine r_iconst dX0_peekNewName_41 ki_3 ?_
  refine r_callVI (cc := 0) [] (am_X0_refuse (3 : Int32) d) rfl rfl cf_X0_refuse mw_X0_55 (by decide) dX0_peekNewName_42 rfl (Nat.le_of_ble_eq_true rfl) ⟨rfl, rfl⟩ (fun q4 => ?_)
  refine r_popi dX0_peekNewName_45 ?_
  refine r_iconst dX0_peekNewName_46 ki_0 ?_
  exact r_zreturn dX0_peekNewName_47 rfl rfl
def f_X0_peekNewName (p1 : Nat) (d : DD) : Option (Int32 × DD) :=
  (f_X0_sort d).bind fun q1 =>
  if q1.1 = (4 : Int32) then
  (f_X0_value q1.2).bind fun q2 =>
    (f_X1_kindOf p1 q2.1 q2.2).bind fun q3 =>
    if q3.1 = (-1 : Int32) then
    (f_X0_value q3.2).bind fun q5 =>
      (f_X1_personOf p1 q5.1 q5.2).bind fun q6 =>
      if q6.1 = (-1 : Int32) then
      some ((1 : Int32), q6.2)
      else
      f_X0_peekNewName_40 p1 q6.2
    else
    f_X0_peekNewName_40 p1 q3.2
  else
  (f_X0_refuse (1 : Int32) q1.2).bind fun q7 =>
    some ((0 : Int32), q7.2)
set_option maxRecDepth 100000 in
set_option maxHeartbeats 4000000 in
theorem am_X0_peekNewName (p1 : Nat) (hp1 : kd p1 = 5) (d : DD) : AM wrI mi_X0_peekNewName 2 44 [.ref 44, .ref p1] d (f_X0_peekNewName p1 d) := by
  refine AM_intro (si := si_X0_peekNewName) (lv := [(0, .ref 44), (1, .ref p1)]) rfl (by decide +kernel) rfl (Nat.le_of_ble_eq_true rfl) (fun E => ?_)
  unfold f_X0_peekNewName
  refine r_aload_n_0 dX0_peekNewName_0 rfl ?_
  refine r_callVI (cc := 0) [] (am_X0_sort d) rfl rfl cf_X0_sort mw_X0_51 (by decide) dX0_peekNewName_1 rfl (Nat.le_of_ble_eq_true rfl) ⟨rfl, rfl⟩ (fun q1 => ?_)
  refine r_iconst dX0_peekNewName_4 ki_4 ?_
  refine r_icmp_eq (tgt := 16) dX0_peekNewName_5 (by decide) ?_ ?_
  · refine r_aload_n_1 dX0_peekNewName_16 rfl ?_
    refine r_aload_n_0 dX0_peekNewName_17 rfl ?_
    refine r_callVL (cc := 0) [.ref p1] (am_X0_value q1.2) rfl rfl cf_X0_value mw_X0_59 (by decide) dX0_peekNewName_18 rfl (Nat.le_of_ble_eq_true rfl) ⟨rfl, rfl⟩ (fun q2 => ?_)
    refine r_callVI (cc := 1) [] (am_X1_kindOf p1 hp1 q2.1 q2.2) hp1 rfl cf_X1_kindOf mw_X0_73 (by decide) dX0_peekNewName_21 rfl (Nat.le_of_ble_eq_true rfl) ⟨rfl, rfl⟩ (fun q3 => ?_)
    refine r_iconst dX0_peekNewName_24 ki_m1 ?_
    refine r_icmp_ne (tgt := 40) dX0_peekNewName_25 (by decide) ?_ ?_
    · refine r_sub [0] (lv' := [(0, .ref 44)]) rfl ?_
      exact w_X0_peekNewName_40 p1 hp1 q3.2
    · refine r_aload_n_1 dX0_peekNewName_28 rfl ?_
      refine r_aload_n_0 dX0_peekNewName_29 rfl ?_
      refine r_callVL (cc := 0) [.ref p1] (am_X0_value q3.2) rfl rfl cf_X0_value mw_X0_59 (by decide) dX0_peekNewName_30 rfl (Nat.le_of_ble_eq_true rfl) ⟨rfl, rfl⟩ (fun q5 => ?_)
      refine r_callVI (cc := 1) [] (am_X1_personOf p1 hp1 q5.1 q5.2) hp1 rfl cf_X1_personOf mw_X0_63 (by decide) dX0_peekNewName_33 rfl (Nat.le_of_ble_eq_true rfl) ⟨rfl, rfl⟩ (fun q6 => ?_)
      refine r_iconst dX0_peekNewName_36 ki_m1 ?_
      refine r_icmp_eq (tgt := 48) dX0_peekNewName_37 (by decide) ?_ ?_
      · refine r_iconst dX0_peekNewName_48 ki_1 ?_
        exact r_zreturn dX0_peekNewName_49 rfl rfl
      · refine r_sub [0] (lv' := [(0, .ref 44)]) rfl ?_
        exact w_X0_peekNewName_40 p1 hp1 q6.2
  · refine r_aload_n_0 dX0_peekNewName_8 rfl ?_
    refine r_iconst dX0_peekNewName_9 ki_1 ?_
    refine r_callVI (cc := 0) [] (am_X0_refuse (1 : Int32) q1.2) rfl rfl cf_X0_refuse mw_X0_55 (by decide) dX0_peekNewName_10 rfl (Nat.le_of_ble_eq_true rfl) ⟨rfl, rfl⟩ (fun q7 => ?_)
    refine r_popi dX0_peekNewName_13 ?_
    refine r_iconst dX0_peekNewName_14 ki_0 ?_
    exact r_zreturn dX0_peekNewName_15 rfl rfl
theorem cf_X0_peekNewName : CFv mi_X0_peekNewName 1 := ⟨iw_X0_peekNewName, vw_X0_peekNewName, nw_X0, cw_X0_peekNewName, by unfold plainF; decide +kernel⟩
abbrev si_X0_peekPerson : SI := (cX0_peekPerson, RX0, 3, (some .int), 2, 44)
def f_X0_peekPerson (p1 : Nat) (d : DD) : Option (Int32 × DD) :=
  (f_X0_sort d).bind fun q1 =>
  if q1.1 = (4 : Int32) then
  (f_X0_value q1.2).bind fun q2 =>
    (f_X1_personOf p1 q2.1 q2.2).bind fun q3 =>
    if q3.1 = (-1 : Int32) then
    (f_X0_refuse (3 : Int32) q3.2).bind fun q4 =>
      some (q4.1, q4.2)
    else
    some (q3.1, q3.2)
  else
  (f_X0_refuse (1 : Int32) q1.2).bind fun q5 =>
    some (q5.1, q5.2)
set_option maxRecDepth 100000 in
set_option maxHeartbeats 4000000 in
theorem am_X0_peekPerson (p1 : Nat) (hp1 : kd p1 = 5) (d : DD) : AM wrI mi_X0_peekPerson 2 44 [.ref 44, .ref p1] d (f_X0_peekPerson p1 d) := by
  refine AM_intro (si := si_X0_peekPerson) (lv := [(0, .ref 44), (1, .ref p1)]) rfl (by decide +kernel) rfl (Nat.le_of_ble_eq_true rfl) (fun E => ?_)
  unfold f_X0_peekPerson
  refine r_aload_n_0 dX0_peekPerson_0 rfl ?_
  refine r_callVI (cc := 0) [] (am_X0_sort d) rfl rfl cf_X0_sort mw_X0_51 (by decide) dX0_peekPerson_1 rfl (Nat.le_of_ble_eq_true rfl) ⟨rfl, rfl⟩ (fun q1 => ?_)
  refine r_iconst dX0_peekPerson_4 ki_4 ?_
  refine r_icmp_eq (tgt := 14) dX0_peekPerson_5 (by decide) ?_ ?_
  · refine r_aload_n_1 dX0_peekPerson_14 rfl ?_
    refine r_aload_n_0 dX0_peekPerson_15 rfl ?_
    refine r_callVL (cc := 0) [.ref p1] (am_X0_value q1.2) rfl rfl cf_X0_value mw_X0_59 (by decide) dX0_peekPerson_16 rfl (Nat.le_of_ble_eq_true rfl) ⟨rfl, rfl⟩ (fun q2 => ?_)
    refine r_callVI (cc := 1) [] (am_X1_personOf p1 hp1 q2.1 q2.2) hp1 rfl cf_X1_personOf mw_X0_63 (by decide) dX0_peekPerson_19 rfl (Nat.le_of_ble_eq_true rfl) ⟨rfl, rfl⟩ (fun q3 => ?_)
    refine r_istore_n_x dX0_peekPerson_22 rfl (by decide) rfl ?_
    refine r_iload_n_0 dX0_peekPerson_23 rfl ?_
    refine r_iconst dX0_peekPerson_24 ki_m1 ?_
    refine r_icmp_ne (tgt := 36) dX0_peekPerson_25 (by decide) ?_ ?_
    · refine r_iload_n_0 dX0_peekPerson_36 rfl ?_
      exact r_ireturn dX0_peekPerson_37 rfl
    · refine r_aload_n_1 dX0_peekPerson_28 rfl ?_
      refine r_iconst dX0_peekPerson_29 ki_3 ?_
      refine r_callVI (cc := 0) [] (am_X0_refuse (3 : Int32) q3.2) rfl rfl cf_X0_refuse mw_X0_55 (by decide) dX0_peekPerson_30 rfl (Nat.le_of_ble_eq_true rfl) ⟨rfl, rfl⟩ (fun q4 => ?_)
      refine r_goto (tgt := 37) dX0_peekPerson_33 (by decide) ?_
      exact r_ireturn dX0_peekPerson_37 rfl
  · refine r_aload_n_0 dX0_peekPerson_8 rfl ?_
    refine r_iconst dX0_peekPerson_9 ki_1 ?_
    refine r_callVI (cc := 0) [] (am_X0_refuse (1 : Int32) q1.2) rfl rfl cf_X0_refuse mw_X0_55 (by decide) dX0_peekPerson_10 rfl (Nat.le_of_ble_eq_true rfl) ⟨rfl, rfl⟩ (fun q5 => ?_)
    exact r_ireturn dX0_peekPerson_13 rfl
theorem cf_X0_peekPerson : CFv mi_X0_peekPerson 1 := ⟨iw_X0_peekPerson, vw_X0_peekPerson, nw_X0, cw_X0_peekPerson, by unfold plainF; decide +kernel⟩
abbrev si_X0_readNumber : SI := (cX0_readNumber, RX0, 4, (some .int), 2, 42)
def f_X0_readNumber_30 (d : DD) : Option (Int32 × DD) :=
  (f_X0_refuse (2 : Int32) d).bind fun q3 =>
  some (q3.1, q3.2)
set_option maxRecDepth 100000 in
set_option maxHeartbeats 4000000 in
theorem w_X0_readNumber_30 {E : XE} (d : DD) : AW E si_X0_readNumber 0 0 (QM E wrI) (f_X0_readNumber_30 d) 30 [(0, .ref 44)] [] d := by
  unfold f_X0_readNumber_30
  refine r_aload_n_0 dX0_readNumber_30 rfl ?_
  refine r_iconst dX0_readNumber_31 ki_2 ?_
  refine r_callVI (cc := 0) [] (am_X0_refuse (2 : Int32) d) rfl rfl cf_X0_refuse mw_X0_55 (by decide) dX0_readNumber_32 rfl (Nat.le_of_ble_eq_true rfl) ⟨rfl, rfl⟩ (fun q3 => ?_)
  exact r_ireturn dX0_readNumber_35 rfl
def f_X0_readNumber (p1 : Int32) (p2 : Int32) (d : DD) : Option (Int32 × DD) :=
  (f_X0_sort d).bind fun q1 =>
  if q1.1 = (3 : Int32) then
  (f_X0_value q1.2).bind fun q2 =>
    if q2.1.toInt32 < p1 then
    f_X0_readNumber_30 q2.2
    else
    if p2 < q2.1.toInt32 then
      f_X0_readNumber_30 q2.2
      else
      bd (u1 q2.2 44 1 ((q2.2.1 44 1) + (1 : Int32))) fun d4 =>
        some (q2.1.toInt32, d4)
  else
  (f_X0_refuse (1 : Int32) q1.2).bind fun q5 =>
    some (q5.1, q5.2)
set_option maxRecDepth 100000 in
set_option maxHeartbeats 4000000 in
theorem am_X0_readNumber (p1 : Int32) (p2 : Int32) (d : DD) : AM wrI mi_X0_readNumber 2 42 [.ref 44, .int p1, .int p2] d (f_X0_readNumber p1 p2 d) := by
  refine AM_intro (si := si_X0_readNumber) (lv := [(0, .ref 44), (1, .int p1), (2, .int p2)]) rfl (by decide +kernel) rfl (Nat.le_of_ble_eq_true rfl) (fun E => ?_)
  unfold f_X0_readNumber
  refine r_aload_n_0 dX0_readNumber_0 rfl ?_
  refine r_callVI (cc := 0) [] (am_X0_sort d) rfl rfl cf_X0_sort mw_X0_51 (by decide) dX0_readNumber_1 rfl (Nat.le_of_ble_eq_true rfl) ⟨rfl, rfl⟩ (fun q1 => ?_)
  refine r_iconst dX0_readNumber_4 ki_3 ?_
  refine r_icmp_eq (tgt := 14) dX0_readNumber_5 (by decide) ?_ ?_
  · refine r_aload_n_0 dX0_readNumber_14 rfl ?_
    refine r_callVL (cc := 0) [] (am_X0_value q1.2) rfl rfl cf_X0_value mw_X0_59 (by decide) dX0_readNumber_15 rfl (Nat.le_of_ble_eq_true rfl) ⟨rfl, rfl⟩ (fun q2 => ?_)
    refine r_l2i dX0_readNumber_18 ?_
    refine r_istore_n_x dX0_readNumber_19 rfl (by decide) rfl ?_
    refine r_iload_n_0 dX0_readNumber_20 rfl ?_
    refine r_iload_n_2 dX0_readNumber_21 rfl ?_
    refine r_icmp_lt (tgt := 30) dX0_readNumber_22 (by decide) ?_ ?_
    · refine r_sub [1] (lv' := [(0, .ref 44)]) rfl ?_
      exact w_X0_readNumber_30 q2.2
    · refine r_iload_n_0 dX0_readNumber_25 rfl ?_
      refine r_iload_n_3 dX0_readNumber_26 rfl ?_
      refine r_icmp_le (tgt := 36) dX0_readNumber_27 (by decide) ?_ ?_
      · refine r_aload_n_1 dX0_readNumber_36 rfl ?_
        refine r_dupa dX0_readNumber_37 ?_
        refine r_geti (cc := 0) 1 rfl rfl uX0 (by decide) rfl fw_X0_18 dX0_readNumber_38 ?_
        refine r_iconst dX0_readNumber_41 ki_1 ?_
        refine r_iadd dX0_readNumber_42 ?_
        refine r_puti (cc := 0) 1 tyX0 tyX0_ok nmX0 rfl (by decide +kernel) rfl rfl uX0 (by decide) rfl fw_X0_18 dX0_readNumber_43 ?_
        refine r_bd (fun d4 => ?_)
        refine r_iload_n_0 dX0_readNumber_46 rfl ?_
        exact r_ireturn dX0_readNumber_47 rfl
      · refine r_sub [1] (lv' := [(0, .ref 44)]) rfl ?_
        exact w_X0_readNumber_30 q2.2
  · refine r_aload_n_0 dX0_readNumber_8 rfl ?_
    refine r_iconst dX0_readNumber_9 ki_1 ?_
    refine r_callVI (cc := 0) [] (am_X0_refuse (1 : Int32) q1.2) rfl rfl cf_X0_refuse mw_X0_55 (by decide) dX0_readNumber_10 rfl (Nat.le_of_ble_eq_true rfl) ⟨rfl, rfl⟩ (fun q5 => ?_)
    exact r_ireturn dX0_readNumber_13 rfl
theorem cf_X0_readNumber : CFv mi_X0_readNumber 2 := ⟨iw_X0_readNumber, vw_X0_readNumber, nw_X0, cw_X0_readNumber, by unfold plainF; decide +kernel⟩
abbrev si_X0_readPerson : SI := (cX0_readPerson, RX0, 3, (some .int), 3, 66)
def f_X0_readPerson (p1 : Nat) (d : DD) : Option (Int32 × DD) :=
  (f_X0_peekPerson p1 d).bind fun q1 =>
  if q1.1 = (-1 : Int32) then
  some (q1.1, q1.2)
  else
  bd (u1 q1.2 44 1 ((q1.2.1 44 1) + (1 : Int32))) fun d2 =>
    some (q1.1, d2)
set_option maxRecDepth 100000 in
set_option maxHeartbeats 4000000 in
theorem am_X0_readPerson (p1 : Nat) (hp1 : kd p1 = 5) (d : DD) : AM wrI mi_X0_readPerson 3 66 [.ref 44, .ref p1] d (f_X0_readPerson p1 d) := by
  refine AM_intro (si := si_X0_readPerson) (lv := [(0, .ref 44), (1, .ref p1)]) rfl (by decide +kernel) rfl (Nat.le_of_ble_eq_true rfl) (fun E => ?_)
  unfold f_X0_readPerson
  refine r_aload_n_0 dX0_readPerson_0 rfl ?_
  refine r_aload_n_1 dX0_readPerson_1 rfl ?_
  refine r_callVI (cc := 0) [] (am_X0_peekPerson p1 hp1 d) rfl rfl cf_X0_peekPerson mw_X0_69 (by decide) dX0_readPerson_2 rfl (Nat.le_of_ble_eq_true rfl) ⟨rfl, rfl⟩ (fun q1 => ?_)
  refine r_istore_n_x dX0_readPerson_5 rfl (by decide) rfl ?_
  refine r_iload_n_0 dX0_readPerson_6 rfl ?_
  refine r_iconst dX0_readPerson_7 ki_m1 ?_
  refine r_icmp_eq (tgt := 21) dX0_readPerson_8 (by decide) ?_ ?_
  · refine r_iload_n_0 dX0_readPerson_21 rfl ?_
    exact r_ireturn dX0_readPerson_22 rfl
  · refine r_aload_n_1 dX0_readPerson_11 rfl ?_
    refine r_dupa dX0_readPerson_12 ?_
    refine r_geti (cc := 0) 1 rfl rfl uX0 (by decide) rfl fw_X0_18 dX0_readPerson_13 ?_
    refine r_iconst dX0_readPerson_16 ki_1 ?_
    refine r_iadd dX0_readPerson_17 ?_
    refine r_puti (cc := 0) 1 tyX0 tyX0_ok nmX0 rfl (by decide +kernel) rfl rfl uX0 (by decide) rfl fw_X0_18 dX0_readPerson_18 ?_
    refine r_bd (fun d2 => ?_)
    refine r_iload_n_0 dX0_readPerson_21 rfl ?_
    exact r_ireturn dX0_readPerson_22 rfl
theorem cf_X0_readPerson : CFv mi_X0_readPerson 1 := ⟨iw_X0_readPerson, vw_X0_readPerson, nw_X0, cw_X0_readPerson, by unfold plainF; decide +kernel⟩
abbrev si_X0_readSemicolon : SI := (cX0_readSemicolon, RX0, 1, (some .boolean), 2, 42)
def f_X0_readSemicolon (d : DD) : Option (Int32 × DD) :=
  (f_X0_sort d).bind fun q1 =>
  if q1.1 = (2 : Int32) then
  bd (u1 q1.2 44 1 ((q1.2.1 44 1) + (1 : Int32))) fun d2 =>
    some ((1 : Int32), d2)
  else
  (f_X0_refuse (1 : Int32) q1.2).bind fun q3 =>
    some ((0 : Int32), q3.2)
set_option maxRecDepth 100000 in
set_option maxHeartbeats 4000000 in
theorem am_X0_readSemicolon (d : DD) : AM wrI mi_X0_readSemicolon 2 42 [.ref 44] d (f_X0_readSemicolon d) := by
  refine AM_intro (si := si_X0_readSemicolon) (lv := [(0, .ref 44)]) rfl (by decide +kernel) rfl (Nat.le_of_ble_eq_true rfl) (fun E => ?_)
  unfold f_X0_readSemicolon
  refine r_aload_n_0 dX0_readSemicolon_0 rfl ?_
  refine r_callVI (cc := 0) [] (am_X0_sort d) rfl rfl cf_X0_sort mw_X0_51 (by decide) dX0_readSemicolon_1 rfl (Nat.le_of_ble_eq_true rfl) ⟨rfl, rfl⟩ (fun q1 => ?_)
  refine r_iconst dX0_readSemicolon_4 ki_2 ?_
  refine r_icmp_eq (tgt := 16) dX0_readSemicolon_5 (by decide) ?_ ?_
  · refine r_aload_n_0 dX0_readSemicolon_16 rfl ?_
    refine r_dupa dX0_readSemicolon_17 ?_
    refine r_geti (cc := 0) 1 rfl rfl uX0 (by decide) rfl fw_X0_18 dX0_readSemicolon_18 ?_
    refine r_iconst dX0_readSemicolon_21 ki_1 ?_
    refine r_iadd dX0_readSemicolon_22 ?_
    refine r_puti (cc := 0) 1 tyX0 tyX0_ok nmX0 rfl (by decide +kernel) rfl rfl uX0 (by decide) rfl fw_X0_18 dX0_readSemicolon_23 ?_
    refine r_bd (fun d2 => ?_)
    refine r_iconst dX0_readSemicolon_26 ki_1 ?_
    exact r_zreturn dX0_readSemicolon_27 rfl rfl
  · refine r_aload_n_0 dX0_readSemicolon_8 rfl ?_
    refine r_iconst dX0_readSemicolon_9 ki_1 ?_
    refine r_callVI (cc := 0) [] (am_X0_refuse (1 : Int32) q1.2) rfl rfl cf_X0_refuse mw_X0_55 (by decide) dX0_readSemicolon_10 rfl (Nat.le_of_ble_eq_true rfl) ⟨rfl, rfl⟩ (fun q3 => ?_)
    refine r_popi dX0_readSemicolon_13 ?_
    refine r_iconst dX0_readSemicolon_14 ki_0 ?_
    exact r_zreturn dX0_readSemicolon_15 rfl rfl
theorem cf_X0_readSemicolon : CFv mi_X0_readSemicolon 0 := ⟨iw_X0_readSemicolon, vw_X0_readSemicolon, nw_X0, cw_X0_readSemicolon, by unfold plainF; decide +kernel⟩
abbrev si_X1_clear : SI := (cX1_clear, RX1, 1, none, 1, 23)
def f_X1_clear (p0 : Nat) (d : DD) : Option (Unit × DD) :=
  bd (u1 d p0 0 (0 : Int32)) fun d1 =>
  bd (u1 d1 p0 1 (0 : Int32)) fun d2 =>
  (f_J7_fill_53178 (rf p0 8) (0 : Int32) d2).bind fun q3 =>
  (f_J7_fill_53178 (rf p0 9) (0 : Int32) q3.2).bind fun q4 =>
  (f_J7_fill_53178 (rf p0 10) (-1 : Int32) q4.2).bind fun q5 =>
  bd (u1 q5.2 (rf p0 11) 0 (0 : Int32)) fun d6 =>
  some ((), d6)
set_option maxRecDepth 100000 in
set_option maxHeartbeats 4000000 in
theorem am_X1_clear (p0 : Nat) (hp0 : kd p0 = 5) (d : DD) : AM wrU mi_X1_clear 1 23 [.ref p0] d (f_X1_clear p0 d) := by
  refine AM_intro (si := si_X1_clear) (lv := [(0, .ref p0)]) rfl (by decide +kernel) rfl (Nat.le_of_ble_eq_true rfl) (fun E => ?_)
  unfold f_X1_clear
  refine r_aload_n_0 dX1_clear_0 rfl ?_
  refine r_iconst dX1_clear_1 ki_0 ?_
  refine r_puti (cc := 1) 0 tyX1 tyX1_ok nmX1 rfl (by decide +kernel) hp0 rfl uX1 (by decide) rfl fw_X1_9 dX1_clear_2 ?_
  refine r_bd (fun d1 => ?_)
  refine r_aload_n_0 dX1_clear_5 rfl ?_
  refine r_iconst dX1_clear_6 ki_0 ?_
  refine r_puti (cc := 1) 1 tyX1 tyX1_ok nmX1 rfl (by decide +kernel) hp0 rfl uX1 (by decide) rfl fw_X1_15 dX1_clear_7 ?_
  refine r_bd (fun d2 => ?_)
  refine r_aload_n_0 dX1_clear_10 rfl ?_
  refine r_getr (t := (rf p0 8)) (cc := 1) 8 hp0 rfl uX1 (by decide) rfl fw_X1_38 rfl dX1_clear_11 ?_
  refine r_iconst dX1_clear_14 ki_0 ?_
  refine r_callSU [] (am_J7_fill_53178 (rf p0 8) (kr_1_8 hp0) (0 : Int32) d2) cf_J7_fill_53178 mw_X1_54 (by decide) dX1_clear_15 rfl (Nat.le_of_ble_eq_true rfl) ⟨rfl, rfl⟩ (fun q3 => ?_)
  refine r_aload_n_0 dX1_clear_18 rfl ?_
  refine r_getr (t := (rf p0 9)) (cc := 1) 9 hp0 rfl uX1 (by decide) rfl fw_X1_41 rfl dX1_clear_19 ?_
  refine r_iconst dX1_clear_22 ki_0 ?_
  refine r_callSU [] (am_J7_fill_53178 (rf p0 9) (kr_1_9 hp0) (0 : Int32) q3.2) cf_J7_fill_53178 mw_X1_54 (by decide) dX1_clear_23 rfl (Nat.le_of_ble_eq_true rfl) ⟨rfl, rfl⟩ (fun q4 => ?_)
  refine r_aload_n_0 dX1_clear_26 rfl ?_
  refine r_getr (t := (rf p0 10)) (cc := 1) 10 hp0 rfl uX1 (by decide) rfl fw_X1_44 rfl dX1_clear_27 ?_
  refine r_iconst dX1_clear_30 ki_m1 ?_
  refine r_callSU [] (am_J7_fill_53178 (rf p0 10) (kr_1_10 hp0) (-1 : Int32) q4.2) cf_J7_fill_53178 mw_X1_54 (by decide) dX1_clear_31 rfl (Nat.le_of_ble_eq_true rfl) ⟨rfl, rfl⟩ (fun q5 => ?_)
  refine r_aload_n_0 dX1_clear_34 rfl ?_
  refine r_getr (t := (rf p0 11)) (cc := 1) 11 hp0 rfl uX1 (by decide) rfl fw_X1_50 rfl dX1_clear_35 ?_
  refine r_iconst dX1_clear_38 ki_0 ?_
  refine r_puti (cc := 5) 0 tyX5 tyX5_ok nmX5 rfl (by decide +kernel) (kr_1_11 hp0) rfl uX5 (by decide) rfl fw_X1_60 dX1_clear_39 ?_
  refine r_bd (fun d6 => ?_)
  exact r_return dX1_clear_42 rfl
theorem cf_X1_clear : CFv mi_X1_clear 0 := ⟨iw_X1_clear, vw_X1_clear, nw_X1, cw_X1_clear, by unfold plainF; decide +kernel⟩
abbrev si_X1_wantOf : SI := (cX1_wantOf, RX1, 3, (some .int), 1, 21)
def f_X1_wantOf (p0 : Nat) (p1 : Int32) (p2 : Int32) (d : DD) : Option (Int32 × DD) :=
  (f_X9_at (rf p0 9) ((p1 * (30 : Int32)) + p2) d).bind fun q1 =>
  some (q1.1, q1.2)
set_option maxRecDepth 100000 in
set_option maxHeartbeats 4000000 in
theorem am_X1_wantOf (p0 : Nat) (hp0 : kd p0 = 5) (p1 : Int32) (p2 : Int32) (d : DD) : AM wrI mi_X1_wantOf 1 21 [.ref p0, .int p1, .int p2] d (f_X1_wantOf p0 p1 p2 d) := by
  refine AM_intro (si := si_X1_wantOf) (lv := [(0, .ref p0), (1, .int p1), (2, .int p2)]) rfl (by decide +kernel) rfl (Nat.le_of_ble_eq_true rfl) (fun E => ?_)
  unfold f_X1_wantOf
  refine r_aload_n_0 dX1_wantOf_0 rfl ?_
  refine r_getr (t := (rf p0 9)) (cc := 1) 9 hp0 rfl uX1 (by decide) rfl fw_X1_41 rfl dX1_wantOf_1 ?_
  refine r_iload_n_1 dX1_wantOf_4 rfl ?_
  refine r_bipush dX1_wantOf_5 kb_30 ?_
  refine r_imul dX1_wantOf_7 ?_
  refine r_iload_n_2 dX1_wantOf_8 rfl ?_
  refine r_iadd dX1_wantOf_9 ?_
  refine r_callSNI [] (am_X9_at (rf p0 9) (kr_1_9 hp0) ((p1 * (30 : Int32)) + p2) d) cf_X9_at wn_X1_79 (by decide) dX1_wantOf_10 rfl (Nat.le_of_ble_eq_true rfl) ⟨rfl, rfl⟩ (fun q1 => ?_)
  exact r_ireturn dX1_wantOf_13 rfl
theorem cf_X1_wantOf : CFv mi_X1_wantOf 2 := ⟨iw_X1_wantOf, vw_X1_wantOf, nw_X1, cw_X1_wantOf, by unfold plainF; decide +kernel⟩
abbrev si_X1_contentOf : SI := (cX1_contentOf, RX1, 4, (some .int), 2, 43)
def f_X1_contentOf_4B (p0 : Nat) (k4 : Int32 → Int32 → Int32 → DD → Option (Int32 × DD)) (v1 : Int32) (v2 : Int32) (v3 : Int32) (d : DD) : Option (Int32 × DD) :=
  if v3 < (30 : Int32) then
  (f_X9_at (rf p0 10) v3 d).bind fun q1 =>
    if q1.1 = v1 then
    (f_X1_wantOf p0 v1 v3 q1.2).bind fun q2 =>
      bd (v2 + q2.1) fun x3 =>
      k4 v1 x3 (v3 + (1 : Int32)) q2.2
    else
    k4 v1 v2 (v3 + (1 : Int32)) q1.2
  else
  some (v2, d)
def f_X1_contentOf_4 (p0 : Nat) : Nat → Int32 → Int32 → Int32 → DD → Option (Int32 × DD)
  | 0, _, _, _, _ => none
  | n + 1, v1, v2, v3, d => f_X1_contentOf_4B p0 (f_X1_contentOf_4 p0 n) v1 v2 v3 d
set_option maxRecDepth 100000 in
set_option maxHeartbeats 4000000 in
theorem w_X1_contentOf_4B {E : XE} (p0 : Nat) (hp0 : kd p0 = 5) (k4 : Int32 → Int32 → Int32 → DD → Option (Int32 × DD)) (hk4 : ∀ (v1 : Int32) (v2 : Int32) (v3 : Int32) (d : DD), AW E si_X1_contentOf 0 0 (QM E wrI) (k4 v1 v2 v3 d) 4 [(0, .ref p0), (1, .int v1), (2, .int v2), (3, .int v3)] [] d) (v1 : Int32) (v2 : Int32) (v3 : Int32) (d : DD) : AW E si_X1_contentOf 0 0 (QM E wrI) (f_X1_contentOf_4B p0 k4 v1 v2 v3 d) 4 [(0, .ref p0), (1, .int v1), (2, .int v2), (3, .int v3)] [] d := by
  unfold f_X1_contentOf_4B
  refine r_iload_n_3 dX1_contentOf_4 rfl ?_
  refine r_bipush dX1_contentOf_5 kb_30 ?_
  refine r_icmp_ge (tgt := 37) dX1_contentOf_7 (by decide) ?_ ?_
  · refine r_iload_n_2 dX1_contentOf_37 rfl ?_
    exact r_ireturn dX1_contentOf_38 rfl
  · refine r_aload_n_0 dX1_contentOf_10 rfl ?_
    refine r_getr (t := (rf p0 10)) (cc := 1) 10 hp0 rfl uX1 (by decide) rfl fw_X1_44 rfl dX1_contentOf_11 ?_
    refine r_iload_n_3 dX1_contentOf_14 rfl ?_
    refine r_callSNI [] (am_X9_at (rf p0 10) (kr_1_10 hp0) v3 d) cf_X9_at wn_X1_79 (by decide) dX1_contentOf_15 rfl (Nat.le_of_ble_eq_true rfl) ⟨rfl, rfl⟩ (fun q1 => ?_)
    refine r_iload_n_1 dX1_contentOf_18 rfl ?_
    refine r_icmp_ne (tgt := 31) dX1_contentOf_19 (by decide) ?_ ?_
    · refine r_iinc_3 dX1_contentOf_31 ki_1 (by decide) rfl ?_
      refine r_goto (tgt := 4) dX1_contentOf_34 (by decide) ?_
      exact hk4 v1 v2 (v3 + (1 : Int32)) q1.2
    · refine r_iload_n_2 dX1_contentOf_22 rfl ?_
      refine r_aload_n_0 dX1_contentOf_23 rfl ?_
      refine r_iload_n_1 dX1_contentOf_24 rfl ?_
      refine r_iload_n_3 dX1_contentOf_25 rfl ?_
      refine r_callVI (cc := 1) [.int v2] (am_X1_wantOf p0 hp0 v1 v3 q1.2) hp0 rfl cf_X1_wantOf mw_X1_98 (by decide) dX1_contentOf_26 rfl (Nat.le_of_ble_eq_true rfl) ⟨rfl, rfl⟩ (fun q2 => ?_)
      refine r_iadd dX1_contentOf_29 ?_
      refine r_bdI (fun x3 => ?_)
      refine r_istore_n_2 dX1_contentOf_30 rfl (by decide) rfl ?_
      refine r_iinc_3 dX1_contentOf_31 ki_1 (by decide) rfl ?_
      refine r_goto (tgt := 4) dX1_contentOf_34 (by decide) ?_
      exact hk4 v1 x3 (v3 + (1 : Int32)) q2.2
theorem w_X1_contentOf_4 {E : XE} (p0 : Nat) (hp0 : kd p0 = 5) (n : Nat) : ∀ (v1 : Int32) (v2 : Int32) (v3 : Int32) (d : DD), AW E si_X1_contentOf 0 0 (QM E wrI) (f_X1_contentOf_4 p0 n v1 v2 v3 d) 4 [(0, .ref p0), (1, .int v1), (2, .int v2), (3, .int v3)] [] d := by
  induction n with
  | zero => intros; exact r_none
  | succ n ih => intro v1 v2 v3 d; exact w_X1_contentOf_4B p0 hp0 (f_X1_contentOf_4 p0 n) ih v1 v2 v3 d
def f_X1_contentOf (p0 : Nat) (p1 : Int32) (d : DD) : Option (Int32 × DD) :=
  f_X1_contentOf_4 p0 FU p1 (0 : Int32) (0 : Int32) d
set_option maxRecDepth 100000 in
set_option maxHeartbeats 4000000 in
theorem am_X1_contentOf (p0 : Nat) (hp0 : kd p0 = 5) (p1 : Int32) (d : DD) : AM wrI mi_X1_contentOf 2 43 [.ref p0, .int p1] d (f_X1_contentOf p0 p1 d) := by
  refine AM_intro (si := si_X1_contentOf) (lv := [(0, .ref p0), (1, .int p1)]) rfl (by decide +kernel) rfl (Nat.le_of_ble_eq_true rfl) (fun E => ?_)
  unfold f_X1_contentOf
  refine r_iconst dX1_contentOf_0 ki_0 ?_
  refine r_istore_n_x dX1_contentOf_1 rfl (by decide) rfl ?_
  refine r_iconst dX1_contentOf_2 ki_0 ?_
  refine r_istore_n_x dX1_contentOf_3 rfl (by decide) rfl ?_
  refine r_sub [2, 3, 1, 0] (lv' := [(0, .ref p0), (1, .int p1), (2, .int (0 : Int32)), (3, .int (0 : Int32))]) rfl ?_
  exact w_X1_contentOf_4 p0 hp0 FU p1 (0 : Int32) (0 : Int32) d
theorem cf_X1_contentOf : CFv mi_X1_contentOf 1 := ⟨iw_X1_contentOf, vw_X1_contentOf, nw_X1, cw_X1_contentOf, by unfold plainF; decide +kernel⟩
abbrev si_X9_copyLongs : SI := (cX9_copyLongs, RX9, 3, none, 0, 0)
def f_X9_copyLongs_11B (p0 : Nat) (p1 : Nat) (k11 : Int32 → DD → Option (Unit × DD)) (v2 : Int32) (d : DD) : Option (Unit × DD) :=
  if v2 < (Int32.ofNat (ln p0)) then
  if v2 < (Int32.ofNat (ln p1)) then
    if ixb v2 (ln p0) then
      if ixb v2 (ln p1) then
        bd (u2 d p1 v2.toNatClampNeg (d.2 p0 v2.toNatClampNeg)) fun d1 =>
        k11 (v2 + (1 : Int32)) d1
        else none
      else none
    else
    some ((), d)
  else
  some ((), d)
def f_X9_copyLongs_11 (p0 : Nat) (p1 : Nat) : Nat → Int32 → DD → Option (Unit × DD)
  | 0, _, _ => none
  | n + 1, v2, d => f_X9_copyLongs_11B p0 p1 (f_X9_copyLongs_11 p0 p1 n) v2 d
set_option maxRecDepth 100000 in
set_option maxHeartbeats 4000000 in
theorem w_X9_copyLongs_11B {E : XE} (p0 : Nat) (hp0 : kd p0 = 1) (p1 : Nat) (hp1 : kd p1 = 1) (k11 : Int32 → DD → Option (Unit × DD)) (hk11 : ∀ (v2 : Int32) (d : DD), AW E si_X9_copyLongs 0 0 (QM E wrU) (k11 v2 d) 11 [(0, .ref p0), (1, .ref p1), (2, .int v2)] [] d) (v2 : Int32) (d : DD) : AW E si_X9_copyLongs 0 0 (QM E wrU) (f_X9_copyLongs_11B p0 p1 k11 v2 d) 11 [(0, .ref p0), (1, .ref p1), (2, .int v2)] [] d := by
  unfold f_X9_copyLongs_11B
  refine r_iload_n_2 dX9_copyLongs_11 rfl ?_
  refine r_aload_n_0 dX9_copyLongs_12 rfl ?_
  refine r_alenl hp0 dX9_copyLongs_13 ?_
  refine r_icmp_ge (tgt := 35) dX9_copyLongs_14 (by decide) ?_ ?_
  · exact r_return dX9_copyLongs_35 rfl
  · refine r_iload_n_2 dX9_copyLongs_17 rfl ?_
    refine r_aload_n_1 dX9_copyLongs_18 rfl ?_
    refine r_alenl hp1 dX9_copyLongs_19 ?_
    refine r_icmp_ge (tgt := 35) dX9_copyLongs_20 (by decide) ?_ ?_
    · exact r_return dX9_copyLongs_35 rfl
    · refine r_aload_n_1 dX9_copyLongs_23 rfl ?_
      refine r_iload_n_2 dX9_copyLongs_24 rfl ?_
      refine r_aload_n_0 dX9_copyLongs_25 rfl ?_
      refine r_iload_n_2 dX9_copyLongs_26 rfl ?_
      refine r_laload hp0 dX9_copyLongs_27 ?_
      refine r_lastore hp1 dX9_copyLongs_28 ?_
      refine r_bd (fun d1 => ?_)
      refine r_iinc_2 dX9_copyLongs_29 ki_1 (by decide) rfl ?_
      refine r_goto (tgt := 11) dX9_copyLongs_32 (by decide) ?_
      exact hk11 (v2 + (1 : Int32)) d1
theorem w_X9_copyLongs_11 {E : XE} (p0 : Nat) (hp0 : kd p0 = 1) (p1 : Nat) (hp1 : kd p1 = 1) (n : Nat) : ∀ (v2 : Int32) (d : DD), AW E si_X9_copyLongs 0 0 (QM E wrU) (f_X9_copyLongs_11 p0 p1 n v2 d) 11 [(0, .ref p0), (1, .ref p1), (2, .int v2)] [] d := by
  induction n with
  | zero => intros; exact r_none
  | succ n ih => intro v2 d; exact w_X9_copyLongs_11B p0 hp0 p1 hp1 (f_X9_copyLongs_11 p0 p1 n) ih v2 d
def f_X9_copyLongs (p0 : Nat) (p1 : Nat) (d : DD) : Option (Unit × DD) :=
  f_X9_copyLongs_11 p0 p1 FU (0 : Int32) d
set_option maxRecDepth 100000 in
set_option maxHeartbeats 4000000 in
theorem am_X9_copyLongs (p0 : Nat) (hp0 : kd p0 = 1) (p1 : Nat) (hp1 : kd p1 = 1) (d : DD) : AM wrU mi_X9_copyLongs 0 0 [.ref p0, .ref p1] d (f_X9_copyLongs p0 p1 d) := by
  refine AM_intro (si := si_X9_copyLongs) (lv := [(0, .ref p0), (1, .ref p1)]) rfl (by decide +kernel) rfl (Nat.le_of_ble_eq_true rfl) (fun E => ?_)
  unfold f_X9_copyLongs
  refine r_aload_n_0 dX9_copyLongs_0 rfl ?_
  refine r_ifnull dX9_copyLongs_1 ?_
  refine r_aload_n_1 dX9_copyLongs_4 rfl ?_
  refine r_ifnonnull (tgt := 9) dX9_copyLongs_5 (by decide) ?_
  refine r_iconst dX9_copyLongs_9 ki_0 ?_
  refine r_istore_n_x dX9_copyLongs_10 rfl (by decide) rfl ?_
  refine r_sub [1, 2, 0] (lv' := [(0, .ref p0), (1, .ref p1), (2, .int (0 : Int32))]) rfl ?_
  exact w_X9_copyLongs_11 p0 hp0 p1 hp1 FU (0 : Int32) d
theorem cf_X9_copyLongs : CFs mi_X9_copyLongs 2 := ⟨sw_X9_copyLongs, nw_X9, cw_X9_copyLongs, by unfold plainF; decide +kernel⟩
abbrev si_X9_copyRow : SI := (cX9_copyRow, RX9, 3, none, 0, 0)
def f_X9_copyRow_11B (p0 : Nat) (p1 : Nat) (k11 : Int32 → DD → Option (Unit × DD)) (v2 : Int32) (d : DD) : Option (Unit × DD) :=
  if v2 < (Int32.ofNat (ln p0)) then
  if v2 < (Int32.ofNat (ln p1)) then
    if ixb v2 (ln p0) then
      if ixb v2 (ln p1) then
        bd (u1 d p1 v2.toNatClampNeg (d.1 p0 v2.toNatClampNeg)) fun d1 =>
        k11 (v2 + (1 : Int32)) d1
        else none
      else none
    else
    some ((), d)
  else
  some ((), d)
def f_X9_copyRow_11 (p0 : Nat) (p1 : Nat) : Nat → Int32 → DD → Option (Unit × DD)
  | 0, _, _ => none
  | n + 1, v2, d => f_X9_copyRow_11B p0 p1 (f_X9_copyRow_11 p0 p1 n) v2 d
set_option maxRecDepth 100000 in
set_option maxHeartbeats 4000000 in
theorem w_X9_copyRow_11B {E : XE} (p0 : Nat) (hp0 : kd p0 = 0) (p1 : Nat) (hp1 : kd p1 = 0) (k11 : Int32 → DD → Option (Unit × DD)) (hk11 : ∀ (v2 : Int32) (d : DD), AW E si_X9_copyRow 0 0 (QM E wrU) (k11 v2 d) 11 [(0, .ref p0), (1, .ref p1), (2, .int v2)] [] d) (v2 : Int32) (d : DD) : AW E si_X9_copyRow 0 0 (QM E wrU) (f_X9_copyRow_11B p0 p1 k11 v2 d) 11 [(0, .ref p0), (1, .ref p1), (2, .int v2)] [] d := by
  unfold f_X9_copyRow_11B
  refine r_iload_n_2 dX9_copyRow_11 rfl ?_
  refine r_aload_n_0 dX9_copyRow_12 rfl ?_
  refine r_aleni hp0 dX9_copyRow_13 ?_
  refine r_icmp_ge (tgt := 35) dX9_copyRow_14 (by decide) ?_ ?_
  · exact r_return dX9_copyRow_35 rfl
  · refine r_iload_n_2 dX9_copyRow_17 rfl ?_
    refine r_aload_n_1 dX9_copyRow_18 rfl ?_
    refine r_aleni hp1 dX9_copyRow_19 ?_
    refine r_icmp_ge (tgt := 35) dX9_copyRow_20 (by decide) ?_ ?_
    · exact r_return dX9_copyRow_35 rfl
    · refine r_aload_n_1 dX9_copyRow_23 rfl ?_
      refine r_iload_n_2 dX9_copyRow_24 rfl ?_
      refine r_aload_n_0 dX9_copyRow_25 rfl ?_
      refine r_iload_n_2 dX9_copyRow_26 rfl ?_
      refine r_iaload hp0 dX9_copyRow_27 ?_
      refine r_iastore hp1 dX9_copyRow_28 ?_
      refine r_bd (fun d1 => ?_)
      refine r_iinc_2 dX9_copyRow_29 ki_1 (by decide) rfl ?_
      refine r_goto (tgt := 11) dX9_copyRow_32 (by decide) ?_
      exact hk11 (v2 + (1 : Int32)) d1
theorem w_X9_copyRow_11 {E : XE} (p0 : Nat) (hp0 : kd p0 = 0) (p1 : Nat) (hp1 : kd p1 = 0) (n : Nat) : ∀ (v2 : Int32) (d : DD), AW E si_X9_copyRow 0 0 (QM E wrU) (f_X9_copyRow_11 p0 p1 n v2 d) 11 [(0, .ref p0), (1, .ref p1), (2, .int v2)] [] d := by
  induction n with
  | zero => intros; exact r_none
  | succ n ih => intro v2 d; exact w_X9_copyRow_11B p0 hp0 p1 hp1 (f_X9_copyRow_11 p0 p1 n) ih v2 d
def f_X9_copyRow (p0 : Nat) (p1 : Nat) (d : DD) : Option (Unit × DD) :=
  f_X9_copyRow_11 p0 p1 FU (0 : Int32) d
set_option maxRecDepth 100000 in
set_option maxHeartbeats 4000000 in
theorem am_X9_copyRow (p0 : Nat) (hp0 : kd p0 = 0) (p1 : Nat) (hp1 : kd p1 = 0) (d : DD) : AM wrU mi_X9_copyRow 0 0 [.ref p0, .ref p1] d (f_X9_copyRow p0 p1 d) := by
  refine AM_intro (si := si_X9_copyRow) (lv := [(0, .ref p0), (1, .ref p1)]) rfl (by decide +kernel) rfl (Nat.le_of_ble_eq_true rfl) (fun E => ?_)
  unfold f_X9_copyRow
  refine r_aload_n_0 dX9_copyRow_0 rfl ?_
  refine r_ifnull dX9_copyRow_1 ?_
  refine r_aload_n_1 dX9_copyRow_4 rfl ?_
  refine r_ifnonnull (tgt := 9) dX9_copyRow_5 (by decide) ?_
  refine r_iconst dX9_copyRow_9 ki_0 ?_
  refine r_istore_n_x dX9_copyRow_10 rfl (by decide) rfl ?_
  refine r_sub [1, 2, 0] (lv' := [(0, .ref p0), (1, .ref p1), (2, .int (0 : Int32))]) rfl ?_
  exact w_X9_copyRow_11 p0 hp0 p1 hp1 FU (0 : Int32) d
theorem cf_X9_copyRow : CFs mi_X9_copyRow 2 := ⟨sw_X9_copyRow, nw_X9, cw_X9_copyRow, by unfold plainF; decide +kernel⟩
abbrev si_X5_copyFrom : SI := (cX5_copyFrom, RX5, 2, none, 1, 22)
def f_X5_copyFrom (p0 : Nat) (p1 : Nat) (d : DD) : Option (Unit × DD) :=
  bd (u1 d p0 0 (d.1 p1 0)) fun d1 =>
  (f_X9_copyRow (rf p1 1) (rf p0 1) d1).bind fun q2 =>
  (f_X9_copyRow (rf p1 2) (rf p0 2) q2.2).bind fun q3 =>
  (f_X9_copyRow (rf p1 3) (rf p0 3) q3.2).bind fun q4 =>
  some ((), q4.2)
set_option maxRecDepth 100000 in
set_option maxHeartbeats 4000000 in
theorem am_X5_copyFrom (p0 : Nat) (hp0 : kd p0 = 9) (p1 : Nat) (hp1 : kd p1 = 9) (d : DD) : AM wrU mi_X5_copyFrom 1 22 [.ref p0, .ref p1] d (f_X5_copyFrom p0 p1 d) := by
  refine AM_intro (si := si_X5_copyFrom) (lv := [(0, .ref p0), (1, .ref p1)]) rfl (by decide +kernel) rfl (Nat.le_of_ble_eq_true rfl) (fun E => ?_)
  unfold f_X5_copyFrom
  refine r_aload_n_0 dX5_copyFrom_0 rfl ?_
  refine r_aload_n_1 dX5_copyFrom_1 rfl ?_
  refine r_geti (cc := 5) 0 hp1 rfl uX5 (by decide) rfl fw_X5_9 dX5_copyFrom_2 ?_
  refine r_puti (cc := 5) 0 tyX5 tyX5_ok nmX5 rfl (by decide +kernel) hp0 rfl uX5 (by decide) rfl fw_X5_9 dX5_copyFrom_5 ?_
  refine r_bd (fun d1 => ?_)
  refine r_aload_n_1 dX5_copyFrom_8 rfl ?_
  refine r_getr (t := (rf p1 1)) (cc := 5) 1 hp1 rfl uX5 (by decide) rfl fw_X5_15 rfl dX5_copyFrom_9 ?_
  refine r_aload_n_0 dX5_copyFrom_12 rfl ?_
  refine r_getr (t := (rf p0 1)) (cc := 5) 1 hp0 rfl uX5 (by decide) rfl fw_X5_15 rfl dX5_copyFrom_13 ?_
  refine r_callSNU [] (am_X9_copyRow (rf p1 1) (kr_5_1 hp1) (rf p0 1) (kr_5_1 hp0) d1) cf_X9_copyRow wn_X5_29 (by decide) dX5_copyFrom_16 rfl (Nat.le_of_ble_eq_true rfl) ⟨rfl, rfl⟩ (fun q2 => ?_)
  refine r_aload_n_1 dX5_copyFrom_19 rfl ?_
  refine r_getr (t := (rf p1 2)) (cc := 5) 2 hp1 rfl uX5 (by decide) rfl fw_X5_19 rfl dX5_copyFrom_20 ?_
  refine r_aload_n_0 dX5_copyFrom_23 rfl ?_
  refine r_getr (t := (rf p0 2)) (cc := 5) 2 hp0 rfl uX5 (by decide) rfl fw_X5_19 rfl dX5_copyFrom_24 ?_
  refine r_callSNU [] (am_X9_copyRow (rf p1 2) (kr_5_2 hp1) (rf p0 2) (kr_5_2 hp0) q2.2) cf_X9_copyRow wn_X5_29 (by decide) dX5_copyFrom_27 rfl (Nat.le_of_ble_eq_true rfl) ⟨rfl, rfl⟩ (fun q3 => ?_)
  refine r_aload_n_1 dX5_copyFrom_30 rfl ?_
  refine r_getr (t := (rf p1 3)) (cc := 5) 3 hp1 rfl uX5 (by decide) rfl fw_X5_22 rfl dX5_copyFrom_31 ?_
  refine r_aload_n_0 dX5_copyFrom_34 rfl ?_
  refine r_getr (t := (rf p0 3)) (cc := 5) 3 hp0 rfl uX5 (by decide) rfl fw_X5_22 rfl dX5_copyFrom_35 ?_
  refine r_callSNU [] (am_X9_copyRow (rf p1 3) (kr_5_3 hp1) (rf p0 3) (kr_5_3 hp0) q3.2) cf_X9_copyRow wn_X5_29 (by decide) dX5_copyFrom_38 rfl (Nat.le_of_ble_eq_true rfl) ⟨rfl, rfl⟩ (fun q4 => ?_)
  exact r_return dX5_copyFrom_41 rfl
theorem cf_X5_copyFrom : CFv mi_X5_copyFrom 1 := ⟨iw_X5_copyFrom, vw_X5_copyFrom, nw_X5, cw_X5_copyFrom, by unfold plainF; decide +kernel⟩
abbrev si_X1_copyFrom : SI := (cX1_copyFrom, RX1, 2, none, 2, 43)
def f_X1_copyFrom (p0 : Nat) (p1 : Nat) (d : DD) : Option (Unit × DD) :=
  bd (u1 d p0 0 (d.1 p1 0)) fun d1 =>
  bd (u1 d1 p0 1 (d1.1 p1 1)) fun d2 =>
  (f_X9_copyLongs (rf p1 2) (rf p0 2) d2).bind fun q3 =>
  (f_X9_copyRow (rf p1 3) (rf p0 3) q3.2).bind fun q4 =>
  (f_X9_copyRow (rf p1 4) (rf p0 4) q4.2).bind fun q5 =>
  (f_X9_copyRow (rf p1 5) (rf p0 5) q5.2).bind fun q6 =>
  (f_X9_copyLongs (rf p1 6) (rf p0 6) q6.2).bind fun q7 =>
  (f_X9_copyRow (rf p1 7) (rf p0 7) q7.2).bind fun q8 =>
  (f_X9_copyRow (rf p1 8) (rf p0 8) q8.2).bind fun q9 =>
  (f_X9_copyRow (rf p1 9) (rf p0 9) q9.2).bind fun q10 =>
  (f_X9_copyRow (rf p1 10) (rf p0 10) q10.2).bind fun q11 =>
  (f_X5_copyFrom (rf p0 11) (rf p1 11) q11.2).bind fun q12 =>
  some ((), q12.2)
set_option maxRecDepth 100000 in
set_option maxHeartbeats 4000000 in
theorem am_X1_copyFrom (p0 : Nat) (hp0 : kd p0 = 5) (p1 : Nat) (hp1 : kd p1 = 5) (d : DD) : AM wrU mi_X1_copyFrom 2 43 [.ref p0, .ref p1] d (f_X1_copyFrom p0 p1 d) := by
  refine AM_intro (si := si_X1_copyFrom) (lv := [(0, .ref p0), (1, .ref p1)]) rfl (by decide +kernel) rfl (Nat.le_of_ble_eq_true rfl) (fun E => ?_)
  unfold f_X1_copyFrom
  refine r_aload_n_0 dX1_copyFrom_0 rfl ?_
  refine r_aload_n_1 dX1_copyFrom_1 rfl ?_
  refine r_geti (cc := 1) 0 hp1 rfl uX1 (by decide) rfl fw_X1_9 dX1_copyFrom_2 ?_
  refine r_puti (cc := 1) 0 tyX1 tyX1_ok nmX1 rfl (by decide +kernel) hp0 rfl uX1 (by decide) rfl fw_X1_9 dX1_copyFrom_5 ?_
  refine r_bd (fun d1 => ?_)
  refine r_aload_n_0 dX1_copyFrom_8 rfl ?_
  refine r_aload_n_1 dX1_copyFrom_9 rfl ?_
  refine r_geti (cc := 1) 1 hp1 rfl uX1 (by decide) rfl fw_X1_15 dX1_copyFrom_10 ?_
  refine r_puti (cc := 1) 1 tyX1 tyX1_ok nmX1 rfl (by decide +kernel) hp0 rfl uX1 (by decide) rfl fw_X1_15 dX1_copyFrom_13 ?_
  refine r_bd (fun d2 => ?_)
  refine r_aload_n_1 dX1_copyFrom_16 rfl ?_
  refine r_getr (t := (rf p1 2)) (cc := 1) 2 hp1 rfl uX1 (by decide) rfl fw_X1_18 rfl dX1_copyFrom_17 ?_
  refine r_aload_n_0 dX1_copyFrom_20 rfl ?_
  refine r_getr (t := (rf p0 2)) (cc := 1) 2 hp0 rfl uX1 (by decide) rfl fw_X1_18 rfl dX1_copyFrom_21 ?_
  refine r_callSNU [] (am_X9_copyLongs (rf p1 2) (kr_1_2 hp1) (rf p0 2) (kr_1_2 hp0) d2) cf_X9_copyLongs wn_X1_63 (by decide) dX1_copyFrom_24 rfl (Nat.le_of_ble_eq_true rfl) ⟨rfl, rfl⟩ (fun q3 => ?_)
  refine r_aload_n_1 dX1_copyFrom_27 rfl ?_
  refine r_getr (t := (rf p1 3)) (cc := 1) 3 hp1 rfl uX1 (by decide) rfl fw_X1_22 rfl dX1_copyFrom_28 ?_
  refine r_aload_n_0 dX1_copyFrom_31 rfl ?_
  refine r_getr (t := (rf p0 3)) (cc := 1) 3 hp0 rfl uX1 (by decide) rfl fw_X1_22 rfl dX1_copyFrom_32 ?_
  refine r_callSNU [] (am_X9_copyRow (rf p1 3) (kr_1_3 hp1) (rf p0 3) (kr_1_3 hp0) q3.2) cf_X9_copyRow wn_X1_67 (by decide) dX1_copyFrom_35 rfl (Nat.le_of_ble_eq_true rfl) ⟨rfl, rfl⟩ (fun q4 => ?_)
  refine r_aload_n_1 dX1_copyFrom_38 rfl ?_
  refine r_getr (t := (rf p1 4)) (cc := 1) 4 hp1 rfl uX1 (by decide) rfl fw_X1_26 rfl dX1_copyFrom_39 ?_
  refine r_aload_n_0 dX1_copyFrom_42 rfl ?_
  refine r_getr (t := (rf p0 4)) (cc := 1) 4 hp0 rfl uX1 (by decide) rfl fw_X1_26 rfl dX1_copyFrom_43 ?_
  refine r_callSNU [] (am_X9_copyRow (rf p1 4) (kr_1_4 hp1) (rf p0 4) (kr_1_4 hp0) q4.2) cf_X9_copyRow wn_X1_67 (by decide) dX1_copyFrom_46 rfl (Nat.le_of_ble_eq_true rfl) ⟨rfl, rfl⟩ (fun q5 => ?_)
  refine r_aload_n_1 dX1_copyFrom_49 rfl ?_
  refine r_getr (t := (rf p1 5)) (cc := 1) 5 hp1 rfl uX1 (by decide) rfl fw_X1_29 rfl dX1_copyFrom_50 ?_
  refine r_aload_n_0 dX1_copyFrom_53 rfl ?_
  refine r_getr (t := (rf p0 5)) (cc := 1) 5 hp0 rfl uX1 (by decide) rfl fw_X1_29 rfl dX1_copyFrom_54 ?_
  refine r_callSNU [] (am_X9_copyRow (rf p1 5) (kr_1_5 hp1) (rf p0 5) (kr_1_5 hp0) q5.2) cf_X9_copyRow wn_X1_67 (by decide) dX1_copyFrom_57 rfl (Nat.le_of_ble_eq_true rfl) ⟨rfl, rfl⟩ (fun q6 => ?_)
  refine r_aload_n_1 dX1_copyFrom_60 rfl ?_
  refine r_getr (t := (rf p1 6)) (cc := 1) 6 hp1 rfl uX1 (by decide) rfl fw_X1_32 rfl dX1_copyFrom_61 ?_
  refine r_aload_n_0 dX1_copyFrom_64 rfl ?_
  refine r_getr (t := (rf p0 6)) (cc := 1) 6 hp0 rfl uX1 (by decide) rfl fw_X1_32 rfl dX1_copyFrom_65 ?_
  refine r_callSNU [] (am_X9_copyLongs (rf p1 6) (kr_1_6 hp1) (rf p0 6) (kr_1_6 hp0) q6.2) cf_X9_copyLongs wn_X1_63 (by decide) dX1_copyFrom_68 rfl (Nat.le_of_ble_eq_true rfl) ⟨rfl, rfl⟩ (fun q7 => ?_)
  refine r_aload_n_1 dX1_copyFrom_71 rfl ?_
  refine r_getr (t := (rf p1 7)) (cc := 1) 7 hp1 rfl uX1 (by decide) rfl fw_X1_35 rfl dX1_copyFrom_72 ?_
  refine r_aload_n_0 dX1_copyFrom_75 rfl ?_
  refine r_getr (t := (rf p0 7)) (cc := 1) 7 hp0 rfl uX1 (by decide) rfl fw_X1_35 rfl dX1_copyFrom_76 ?_
  refine r_callSNU [] (am_X9_copyRow (rf p1 7) (kr_1_7 hp1) (rf p0 7) (kr_1_7 hp0) q7.2) cf_X9_copyRow wn_X1_67 (by decide) dX1_copyFrom_79 rfl (Nat.le_of_ble_eq_true rfl) ⟨rfl, rfl⟩ (fun q8 => ?_)
  refine r_aload_n_1 dX1_copyFrom_82 rfl ?_
  refine r_getr (t := (rf p1 8)) (cc := 1) 8 hp1 rfl uX1 (by decide) rfl fw_X1_38 rfl dX1_copyFrom_83 ?_
  refine r_aload_n_0 dX1_copyFrom_86 rfl ?_
  refine r_getr (t := (rf p0 8)) (cc := 1) 8 hp0 rfl uX1 (by decide) rfl fw_X1_38 rfl dX1_copyFrom_87 ?_
  refine r_callSNU [] (am_X9_copyRow (rf p1 8) (kr_1_8 hp1) (rf p0 8) (kr_1_8 hp0) q8.2) cf_X9_copyRow wn_X1_67 (by decide) dX1_copyFrom_90 rfl (Nat.le_of_ble_eq_true rfl) ⟨rfl, rfl⟩ (fun q9 => ?_)
  refine r_aload_n_1 dX1_copyFrom_93 rfl ?_
  refine r_getr (t := (rf p1 9)) (cc := 1) 9 hp1 rfl uX1 (by decide) rfl fw_X1_41 rfl dX1_copyFrom_94 ?_
  refine r_aload_n_0 dX1_copyFrom_97 rfl ?_
  refine r_getr (t := (rf p0 9)) (cc := 1) 9 hp0 rfl uX1 (by decide) rfl fw_X1_41 rfl dX1_copyFrom_98 ?_
  refine r_callSNU [] (am_X9_copyRow (rf p1 9) (kr_1_9 hp1) (rf p0 9) (kr_1_9 hp0) q9.2) cf_X9_copyRow wn_X1_67 (by decide) dX1_copyFrom_101 rfl (Nat.le_of_ble_eq_true rfl) ⟨rfl, rfl⟩ (fun q10 => ?_)
  refine r_aload_n_1 dX1_copyFrom_104 rfl ?_
  refine r_getr (t := (rf p1 10)) (cc := 1) 10 hp1 rfl uX1 (by decide) rfl fw_X1_44 rfl dX1_copyFrom_105 ?_
  refine r_aload_n_0 dX1_copyFrom_108 rfl ?_
  refine r_getr (t := (rf p0 10)) (cc := 1) 10 hp0 rfl uX1 (by decide) rfl fw_X1_44 rfl dX1_copyFrom_109 ?_
  refine r_callSNU [] (am_X9_copyRow (rf p1 10) (kr_1_10 hp1) (rf p0 10) (kr_1_10 hp0) q10.2) cf_X9_copyRow wn_X1_67 (by decide) dX1_copyFrom_112 rfl (Nat.le_of_ble_eq_true rfl) ⟨rfl, rfl⟩ (fun q11 => ?_)
  refine r_aload_n_0 dX1_copyFrom_115 rfl ?_
  refine r_getr (t := (rf p0 11)) (cc := 1) 11 hp0 rfl uX1 (by decide) rfl fw_X1_50 rfl dX1_copyFrom_116 ?_
  refine r_aload_n_1 dX1_copyFrom_119 rfl ?_
  refine r_getr (t := (rf p1 11)) (cc := 1) 11 hp1 rfl uX1 (by decide) rfl fw_X1_50 rfl dX1_copyFrom_120 ?_
  refine r_callVU (cc := 5) [] (am_X5_copyFrom (rf p0 11) (kr_1_11 hp0) (rf p1 11) (kr_1_11 hp1) q11.2) (kr_1_11 hp0) rfl cf_X5_copyFrom mw_X1_71 (by decide) dX1_copyFrom_123 rfl (Nat.le_of_ble_eq_true rfl) ⟨rfl, rfl⟩ (fun q12 => ?_)
  exact r_return dX1_copyFrom_126 rfl
theorem cf_X1_copyFrom : CFv mi_X1_copyFrom 1 := ⟨iw_X1_copyFrom, vw_X1_copyFrom, nw_X1, cw_X1_copyFrom, by unfold plainF; decide +kernel⟩
abbrev si_X1_firstOf : SI := (cX1_firstOf, RX1, 4, (some .int), 0, 0)
def f_X1_firstOf_4B (k4 : Int32 → Int32 → Int32 → Int32 → DD → Option (Int32 × DD)) (v0 : Int32) (v1 : Int32) (v2 : Int32) (v3 : Int32) (d : DD) : Option (Int32 × DD) :=
  if (8 : Int32) < v3 then
  some (v2, d)
  else
  if v3 < v0 then
    k4 v0 v1 v2 (v3 + (1 : Int32)) d
    else
    if v3 < v1 then
      bd (v2 + v3) fun x1 =>
        k4 v0 v1 x1 (v3 + (1 : Int32)) d
      else
      k4 v0 v1 v2 (v3 + (1 : Int32)) d
def f_X1_firstOf_4 : Nat → Int32 → Int32 → Int32 → Int32 → DD → Option (Int32 × DD)
  | 0, _, _, _, _, _ => none
  | n + 1, v0, v1, v2, v3, d => f_X1_firstOf_4B (f_X1_firstOf_4 n) v0 v1 v2 v3 d
set_option maxRecDepth 100000 in
set_option maxHeartbeats 4000000 in
theorem w_X1_firstOf_4B {E : XE} (k4 : Int32 → Int32 → Int32 → Int32 → DD → Option (Int32 × DD)) (hk4 : ∀ (v0 : Int32) (v1 : Int32) (v2 : Int32) (v3 : Int32) (d : DD), AW E si_X1_firstOf 0 0 (QM E wrI) (k4 v0 v1 v2 v3 d) 4 [(0, .int v0), (1, .int v1), (2, .int v2), (3, .int v3)] [] d) (v0 : Int32) (v1 : Int32) (v2 : Int32) (v3 : Int32) (d : DD) : AW E si_X1_firstOf 0 0 (QM E wrI) (f_X1_firstOf_4B k4 v0 v1 v2 v3 d) 4 [(0, .int v0), (1, .int v1), (2, .int v2), (3, .int v3)] [] d := by
  unfold f_X1_firstOf_4B
  refine r_iload_n_3 dX1_firstOf_4 rfl ?_
  refine r_bipush dX1_firstOf_5 kb_8 ?_
  refine r_icmp_gt (tgt := 30) dX1_firstOf_7 (by decide) ?_ ?_
  · refine r_iload_n_2 dX1_firstOf_30 rfl ?_
    exact r_ireturn dX1_firstOf_31 rfl
  · refine r_iload_n_3 dX1_firstOf_10 rfl ?_
    refine r_iload_n_0 dX1_firstOf_11 rfl ?_
    refine r_icmp_lt (tgt := 24) dX1_firstOf_12 (by decide) ?_ ?_
    · refine r_iinc_3 dX1_firstOf_24 ki_1 (by decide) rfl ?_
      refine r_goto (tgt := 4) dX1_firstOf_27 (by decide) ?_
      exact hk4 v0 v1 v2 (v3 + (1 : Int32)) d
    · refine r_iload_n_3 dX1_firstOf_15 rfl ?_
      refine r_iload_n_1 dX1_firstOf_16 rfl ?_
      refine r_icmp_ge (tgt := 24) dX1_firstOf_17 (by decide) ?_ ?_
      · refine r_iinc_3 dX1_firstOf_24 ki_1 (by decide) rfl ?_
        refine r_goto (tgt := 4) dX1_firstOf_27 (by decide) ?_
        exact hk4 v0 v1 v2 (v3 + (1 : Int32)) d
      · refine r_iload_n_2 dX1_firstOf_20 rfl ?_
        refine r_iload_n_3 dX1_firstOf_21 rfl ?_
        refine r_iadd dX1_firstOf_22 ?_
        refine r_bdI (fun x1 => ?_)
        refine r_istore_n_2 dX1_firstOf_23 rfl (by decide) rfl ?_
        refine r_iinc_3 dX1_firstOf_24 ki_1 (by decide) rfl ?_
        refine r_goto (tgt := 4) dX1_firstOf_27 (by decide) ?_
        exact hk4 v0 v1 x1 (v3 + (1 : Int32)) d
theorem w_X1_firstOf_4 {E : XE} (n : Nat) : ∀ (v0 : Int32) (v1 : Int32) (v2 : Int32) (v3 : Int32) (d : DD), AW E si_X1_firstOf 0 0 (QM E wrI) (f_X1_firstOf_4 n v0 v1 v2 v3 d) 4 [(0, .int v0), (1, .int v1), (2, .int v2), (3, .int v3)] [] d := by
  induction n with
  | zero => intros; exact r_none
  | succ n ih => intro v0 v1 v2 v3 d; exact w_X1_firstOf_4B (f_X1_firstOf_4 n) ih v0 v1 v2 v3 d
def f_X1_firstOf (p0 : Int32) (p1 : Int32) (d : DD) : Option (Int32 × DD) :=
  f_X1_firstOf_4 FU p0 p1 (0 : Int32) (1 : Int32) d
set_option maxRecDepth 100000 in
set_option maxHeartbeats 4000000 in
theorem am_X1_firstOf (p0 : Int32) (p1 : Int32) (d : DD) : AM wrI mi_X1_firstOf 0 0 [.int p0, .int p1] d (f_X1_firstOf p0 p1 d) := by
  refine AM_intro (si := si_X1_firstOf) (lv := [(0, .int p0), (1, .int p1)]) rfl (by decide +kernel) rfl (Nat.le_of_ble_eq_true rfl) (fun E => ?_)
  unfold f_X1_firstOf
  refine r_iconst dX1_firstOf_0 ki_0 ?_
  refine r_istore_n_x dX1_firstOf_1 rfl (by decide) rfl ?_
  refine r_iconst dX1_firstOf_2 ki_1 ?_
  refine r_istore_n_x dX1_firstOf_3 rfl (by decide) rfl ?_
  refine r_sub [2, 3, 1, 0] (lv' := [(0, .int p0), (1, .int p1), (2, .int (0 : Int32)), (3, .int (1 : Int32))]) rfl ?_
  exact w_X1_firstOf_4 FU p0 p1 (0 : Int32) (1 : Int32) d
theorem cf_X1_firstOf : CFs mi_X1_firstOf 2 := ⟨sw_X1_firstOf, nw_X1, cw_X1_firstOf, by unfold plainF; decide +kernel⟩
abbrev si_X1_hasAllTruths : SI := (cX1_hasAllTruths, RX1, 2, (some .boolean), 1, 21)
def f_X1_hasAllTruths_2B (p0 : Nat) (k2 : Int32 → DD → Option (Int32 × DD)) (v1 : Int32) (d : DD) : Option (Int32 × DD) :=
  if v1 < (d.1 p0 0) then
  (f_X9_at (rf p0 5) v1 d).bind fun q1 =>
    if q1.1 = (-1 : Int32) then
    some ((0 : Int32), q1.2)
    else
    k2 (v1 + (1 : Int32)) q1.2
  else
  some ((1 : Int32), d)
def f_X1_hasAllTruths_2 (p0 : Nat) : Nat → Int32 → DD → Option (Int32 × DD)
  | 0, _, _ => none
  | n + 1, v1, d => f_X1_hasAllTruths_2B p0 (f_X1_hasAllTruths_2 p0 n) v1 d
set_option maxRecDepth 100000 in
set_option maxHeartbeats 4000000 in
theorem w_X1_hasAllTruths_2B {E : XE} (p0 : Nat) (hp0 : kd p0 = 5) (k2 : Int32 → DD → Option (Int32 × DD)) (hk2 : ∀ (v1 : Int32) (d : DD), AW E si_X1_hasAllTruths 0 0 (QM E wrI) (k2 v1 d) 2 [(0, .ref p0), (1, .int v1)] [] d) (v1 : Int32) (d : DD) : AW E si_X1_hasAllTruths 0 0 (QM E wrI) (f_X1_hasAllTruths_2B p0 k2 v1 d) 2 [(0, .ref p0), (1, .int v1)] [] d := by
  unfold f_X1_hasAllTruths_2B
  refine r_iload_n_1 dX1_hasAllTruths_2 rfl ?_
  refine r_aload_n_0 dX1_hasAllTruths_3 rfl ?_
  refine r_geti (cc := 1) 0 hp0 rfl uX1 (by decide) rfl fw_X1_9 dX1_hasAllTruths_4 ?_
  refine r_icmp_ge (tgt := 30) dX1_hasAllTruths_7 (by decide) ?_ ?_
  · refine r_iconst dX1_hasAllTruths_30 ki_1 ?_
    exact r_zreturn dX1_hasAllTruths_31 rfl rfl
  · refine r_aload_n_0 dX1_hasAllTruths_10 rfl ?_
    refine r_getr (t := (rf p0 5)) (cc := 1) 5 hp0 rfl uX1 (by decide) rfl fw_X1_29 rfl dX1_hasAllTruths_11 ?_
    refine r_iload_n_1 dX1_hasAllTruths_14 rfl ?_
    refine r_callSNI [] (am_X9_at (rf p0 5) (kr_1_5 hp0) v1 d) cf_X9_at wn_X1_79 (by decide) dX1_hasAllTruths_15 rfl (Nat.le_of_ble_eq_true rfl) ⟨rfl, rfl⟩ (fun q1 => ?_)
    refine r_iconst dX1_hasAllTruths_18 ki_m1 ?_
    refine r_icmp_ne (tgt := 24) dX1_hasAllTruths_19 (by decide) ?_ ?_
    · refine r_iinc_1 dX1_hasAllTruths_24 ki_1 (by decide) rfl ?_
      refine r_goto (tgt := 2) dX1_hasAllTruths_27 (by decide) ?_
      exact hk2 (v1 + (1 : Int32)) q1.2
    · refine r_iconst dX1_hasAllTruths_22 ki_0 ?_
      exact r_zreturn dX1_hasAllTruths_23 rfl rfl
theorem w_X1_hasAllTruths_2 {E : XE} (p0 : Nat) (hp0 : kd p0 = 5) (n : Nat) : ∀ (v1 : Int32) (d : DD), AW E si_X1_hasAllTruths 0 0 (QM E wrI) (f_X1_hasAllTruths_2 p0 n v1 d) 2 [(0, .ref p0), (1, .int v1)] [] d := by
  induction n with
  | zero => intros; exact r_none
  | succ n ih => intro v1 d; exact w_X1_hasAllTruths_2B p0 hp0 (f_X1_hasAllTruths_2 p0 n) ih v1 d
def f_X1_hasAllTruths (p0 : Nat) (d : DD) : Option (Int32 × DD) :=
  f_X1_hasAllTruths_2 p0 FU (0 : Int32) d
set_option maxRecDepth 100000 in
set_option maxHeartbeats 4000000 in
theorem am_X1_hasAllTruths (p0 : Nat) (hp0 : kd p0 = 5) (d : DD) : AM wrI mi_X1_hasAllTruths 1 21 [.ref p0] d (f_X1_hasAllTruths p0 d) := by
  refine AM_intro (si := si_X1_hasAllTruths) (lv := [(0, .ref p0)]) rfl (by decide +kernel) rfl (Nat.le_of_ble_eq_true rfl) (fun E => ?_)
  unfold f_X1_hasAllTruths
  refine r_iconst dX1_hasAllTruths_0 ki_0 ?_
  refine r_istore_n_x dX1_hasAllTruths_1 rfl (by decide) rfl ?_
  refine r_sub [1, 0] (lv' := [(0, .ref p0), (1, .int (0 : Int32))]) rfl ?_
  exact w_X1_hasAllTruths_2 p0 hp0 FU (0 : Int32) d
theorem cf_X1_hasAllTruths : CFv mi_X1_hasAllTruths 0 := ⟨iw_X1_hasAllTruths, vw_X1_hasAllTruths, nw_X1, cw_X1_hasAllTruths, by unfold plainF; decide +kernel⟩
abbrev si_X1_hasKind : SI := (cX1_hasKind, RX1, 2, (some .boolean), 0, 0)
def f_X1_hasKind (p0 : Nat) (p1 : Int32) (d : DD) : Option (Int32 × DD) :=
  if p1 < 0 then
  some ((0 : Int32), d)
  else
  if p1 < (d.1 p0 0) then
    some ((1 : Int32), d)
    else
    some ((0 : Int32), d)
set_option maxRecDepth 100000 in
set_option maxHeartbeats 4000000 in
theorem am_X1_hasKind (p0 : Nat) (hp0 : kd p0 = 5) (p1 : Int32) (d : DD) : AM wrI mi_X1_hasKind 0 0 [.ref p0, .int p1] d (f_X1_hasKind p0 p1 d) := by
  refine AM_intro (si := si_X1_hasKind) (lv := [(0, .ref p0), (1, .int p1)]) rfl (by decide +kernel) rfl (Nat.le_of_ble_eq_true rfl) (fun E => ?_)
  unfold f_X1_hasKind
  refine r_iload_n_1 dX1_hasKind_0 rfl ?_
  refine r_if_lt (tgt := 16) dX1_hasKind_1 (by decide) ?_ ?_
  · refine r_iconst dX1_hasKind_16 ki_0 ?_
    exact r_zreturn dX1_hasKind_17 rfl rfl
  · refine r_iload_n_1 dX1_hasKind_4 rfl ?_
    refine r_aload_n_0 dX1_hasKind_5 rfl ?_
    refine r_geti (cc := 1) 0 hp0 rfl uX1 (by decide) rfl fw_X1_9 dX1_hasKind_6 ?_
    refine r_icmp_ge (tgt := 16) dX1_hasKind_9 (by decide) ?_ ?_
    · refine r_iconst dX1_hasKind_16 ki_0 ?_
      exact r_zreturn dX1_hasKind_17 rfl rfl
    · refine r_iconst dX1_hasKind_12 ki_1 ?_
      refine r_goto (tgt := 17) dX1_hasKind_13 (by decide) ?_
      exact r_zreturn dX1_hasKind_17 rfl rfl
theorem cf_X1_hasKind : CFv mi_X1_hasKind 1 := ⟨iw_X1_hasKind, vw_X1_hasKind, nw_X1, cw_X1_hasKind, by unfold plainF; decide +kernel⟩
abbrev si_X1_hasPerson : SI := (cX1_hasPerson, RX1, 2, (some .boolean), 0, 0)
def f_X1_hasPerson (p0 : Nat) (p1 : Int32) (d : DD) : Option (Int32 × DD) :=
  if p1 < 0 then
  some ((0 : Int32), d)
  else
  if p1 < (d.1 p0 1) then
    some ((1 : Int32), d)
    else
    some ((0 : Int32), d)
set_option maxRecDepth 100000 in
set_option maxHeartbeats 4000000 in
theorem am_X1_hasPerson (p0 : Nat) (hp0 : kd p0 = 5) (p1 : Int32) (d : DD) : AM wrI mi_X1_hasPerson 0 0 [.ref p0, .int p1] d (f_X1_hasPerson p0 p1 d) := by
  refine AM_intro (si := si_X1_hasPerson) (lv := [(0, .ref p0), (1, .int p1)]) rfl (by decide +kernel) rfl (Nat.le_of_ble_eq_true rfl) (fun E => ?_)
  unfold f_X1_hasPerson
  refine r_iload_n_1 dX1_hasPerson_0 rfl ?_
  refine r_if_lt (tgt := 16) dX1_hasPerson_1 (by decide) ?_ ?_
  · refine r_iconst dX1_hasPerson_16 ki_0 ?_
    exact r_zreturn dX1_hasPerson_17 rfl rfl
  · refine r_iload_n_1 dX1_hasPerson_4 rfl ?_
    refine r_aload_n_0 dX1_hasPerson_5 rfl ?_
    refine r_geti (cc := 1) 1 hp0 rfl uX1 (by decide) rfl fw_X1_15 dX1_hasPerson_6 ?_
    refine r_icmp_ge (tgt := 16) dX1_hasPerson_9 (by decide) ?_ ?_
    · refine r_iconst dX1_hasPerson_16 ki_0 ?_
      exact r_zreturn dX1_hasPerson_17 rfl rfl
    · refine r_iconst dX1_hasPerson_12 ki_1 ?_
      refine r_goto (tgt := 17) dX1_hasPerson_13 (by decide) ?_
      exact r_zreturn dX1_hasPerson_17 rfl rfl
theorem cf_X1_hasPerson : CFv mi_X1_hasPerson 1 := ⟨iw_X1_hasPerson, vw_X1_hasPerson, nw_X1, cw_X1_hasPerson, by unfold plainF; decide +kernel⟩
abbrev si_X1_hasSet : SI := (cX1_hasSet, RX1, 2, (some .boolean), 0, 0)
def f_X1_hasSet (p0 : Nat) (p1 : Int32) (d : DD) : Option (Int32 × DD) :=
  if p1 < 0 then
  some ((0 : Int32), d)
  else
  if p1 < ((1 : Int32) <<< ((d.1 p0 0) &&& 31)) then
    some ((1 : Int32), d)
    else
    some ((0 : Int32), d)
set_option maxRecDepth 100000 in
set_option maxHeartbeats 4000000 in
theorem am_X1_hasSet (p0 : Nat) (hp0 : kd p0 = 5) (p1 : Int32) (d : DD) : AM wrI mi_X1_hasSet 0 0 [.ref p0, .int p1] d (f_X1_hasSet p0 p1 d) := by
  refine AM_intro (si := si_X1_hasSet) (lv := [(0, .ref p0), (1, .int p1)]) rfl (by decide +kernel) rfl (Nat.le_of_ble_eq_true rfl) (fun E => ?_)
  unfold f_X1_hasSet
  refine r_iload_n_1 dX1_hasSet_0 rfl ?_
  refine r_if_lt (tgt := 18) dX1_hasSet_1 (by decide) ?_ ?_
  · refine r_iconst dX1_hasSet_18 ki_0 ?_
    exact r_zreturn dX1_hasSet_19 rfl rfl
  · refine r_iload_n_1 dX1_hasSet_4 rfl ?_
    refine r_iconst dX1_hasSet_5 ki_1 ?_
    refine r_aload_n_0 dX1_hasSet_6 rfl ?_
    refine r_geti (cc := 1) 0 hp0 rfl uX1 (by decide) rfl fw_X1_9 dX1_hasSet_7 ?_
    refine r_ishl dX1_hasSet_10 ?_
    refine r_icmp_ge (tgt := 18) dX1_hasSet_11 (by decide) ?_ ?_
    · refine r_iconst dX1_hasSet_18 ki_0 ?_
      exact r_zreturn dX1_hasSet_19 rfl rfl
    · refine r_iconst dX1_hasSet_14 ki_1 ?_
      refine r_goto (tgt := 19) dX1_hasSet_15 (by decide) ?_
      exact r_zreturn dX1_hasSet_19 rfl rfl
theorem cf_X1_hasSet : CFv mi_X1_hasSet 1 := ⟨iw_X1_hasSet, vw_X1_hasSet, nw_X1, cw_X1_hasSet, by unfold plainF; decide +kernel⟩
abbrev si_X1_timetablesOf : SI := (cX1_timetablesOf, RX1, 2, (some .int), 1, 23)
def f_X1_timetablesOf (p0 : Nat) (p1 : Int32) (d : DD) : Option (Int32 × DD) :=
  (f_X9_at (rf p0 3) p1 d).bind fun q1 =>
  (f_X9_at (rf p0 4) p1 q1.2).bind fun q2 =>
  (f_X1_firstOf q1.1 (q2.1 + (1 : Int32)) q2.2).bind fun q3 =>
  some (q3.1, q3.2)
set_option maxRecDepth 100000 in
set_option maxHeartbeats 4000000 in
theorem am_X1_timetablesOf (p0 : Nat) (hp0 : kd p0 = 5) (p1 : Int32) (d : DD) : AM wrI mi_X1_timetablesOf 1 23 [.ref p0, .int p1] d (f_X1_timetablesOf p0 p1 d) := by
  refine AM_intro (si := si_X1_timetablesOf) (lv := [(0, .ref p0), (1, .int p1)]) rfl (by decide +kernel) rfl (Nat.le_of_ble_eq_true rfl) (fun E => ?_)
  unfold f_X1_timetablesOf
  refine r_aload_n_0 dX1_timetablesOf_0 rfl ?_
  refine r_getr (t := (rf p0 3)) (cc := 1) 3 hp0 rfl uX1 (by decide) rfl fw_X1_22 rfl dX1_timetablesOf_1 ?_
  refine r_iload_n_1 dX1_timetablesOf_4 rfl ?_
  refine r_callSNI [] (am_X9_at (rf p0 3) (kr_1_3 hp0) p1 d) cf_X9_at wn_X1_79 (by decide) dX1_timetablesOf_5 rfl (Nat.le_of_ble_eq_true rfl) ⟨rfl, rfl⟩ (fun q1 => ?_)
  refine r_aload_n_0 dX1_timetablesOf_8 rfl ?_
  refine r_getr (t := (rf p0 4)) (cc := 1) 4 hp0 rfl uX1 (by decide) rfl fw_X1_26 rfl dX1_timetablesOf_9 ?_
  refine r_iload_n_1 dX1_timetablesOf_12 rfl ?_
  refine r_callSNI [.int q1.1] (am_X9_at (rf p0 4) (kr_1_4 hp0) p1 q1.2) cf_X9_at wn_X1_79 (by decide) dX1_timetablesOf_13 rfl (Nat.le_of_ble_eq_true rfl) ⟨rfl, rfl⟩ (fun q2 => ?_)
  refine r_iconst dX1_timetablesOf_16 ki_1 ?_
  refine r_iadd dX1_timetablesOf_17 ?_
  refine r_callSI [] (am_X1_firstOf q1.1 (q2.1 + (1 : Int32)) q2.2) cf_X1_firstOf mw_X1_87 (by decide) dX1_timetablesOf_18 rfl (Nat.le_of_ble_eq_true rfl) ⟨rfl, rfl⟩ (fun q3 => ?_)
  exact r_ireturn dX1_timetablesOf_21 rfl
theorem cf_X1_timetablesOf : CFv mi_X1_timetablesOf 1 := ⟨iw_X1_timetablesOf, vw_X1_timetablesOf, nw_X1, cw_X1_timetablesOf, by unfold plainF; decide +kernel⟩
abbrev si_X1_hasTimetable : SI := (cX1_hasTimetable, RX1, 3, (some .boolean), 2, 44)
def f_X1_hasTimetable (p0 : Nat) (p1 : Int32) (p2 : Int32) (d : DD) : Option (Int32 × DD) :=
  if p2 < 0 then
  some ((0 : Int32), d)
  else
  (f_X1_timetablesOf p0 p1 d).bind fun q1 =>
    if p2 < q1.1 then
    some ((1 : Int32), q1.2)
    else
    some ((0 : Int32), q1.2)
set_option maxRecDepth 100000 in
set_option maxHeartbeats 4000000 in
theorem am_X1_hasTimetable (p0 : Nat) (hp0 : kd p0 = 5) (p1 : Int32) (p2 : Int32) (d : DD) : AM wrI mi_X1_hasTimetable 2 44 [.ref p0, .int p1, .int p2] d (f_X1_hasTimetable p0 p1 p2 d) := by
  refine AM_intro (si := si_X1_hasTimetable) (lv := [(0, .ref p0), (1, .int p1), (2, .int p2)]) rfl (by decide +kernel) rfl (Nat.le_of_ble_eq_true rfl) (fun E => ?_)
  unfold f_X1_hasTimetable
  refine r_iload_n_2 dX1_hasTimetable_0 rfl ?_
  refine r_if_lt (tgt := 17) dX1_hasTimetable_1 (by decide) ?_ ?_
  · refine r_iconst dX1_hasTimetable_17 ki_0 ?_
    exact r_zreturn dX1_hasTimetable_18 rfl rfl
  · refine r_iload_n_2 dX1_hasTimetable_4 rfl ?_
    refine r_aload_n_0 dX1_hasTimetable_5 rfl ?_
    refine r_iload_n_1 dX1_hasTimetable_6 rfl ?_
    refine r_callVI (cc := 1) [.int p2] (am_X1_timetablesOf p0 hp0 p1 d) hp0 rfl cf_X1_timetablesOf mw_X1_75 (by decide) dX1_hasTimetable_7 rfl (Nat.le_of_ble_eq_true rfl) ⟨rfl, rfl⟩ (fun q1 => ?_)
    refine r_icmp_ge (tgt := 17) dX1_hasTimetable_10 (by decide) ?_ ?_
    · refine r_iconst dX1_hasTimetable_17 ki_0 ?_
      exact r_zreturn dX1_hasTimetable_18 rfl rfl
    · refine r_iconst dX1_hasTimetable_13 ki_1 ?_
      refine r_goto (tgt := 18) dX1_hasTimetable_14 (by decide) ?_
      exact r_zreturn dX1_hasTimetable_18 rfl rfl
theorem cf_X1_hasTimetable : CFv mi_X1_hasTimetable 2 := ⟨iw_X1_hasTimetable, vw_X1_hasTimetable, nw_X1, cw_X1_hasTimetable, by unfold plainF; decide +kernel⟩
abbrev si_X1_hasWay : SI := (cX1_hasWay, RX1, 2, (some .boolean), 0, 0)
def f_X1_hasWay (p0 : Nat) (p1 : Int32) (d : DD) : Option (Int32 × DD) :=
  if p1 < 0 then
  some ((0 : Int32), d)
  else
  if p1 < ((2 : Int32) + ((2 : Int32) * (d.1 p0 0))) then
    some ((1 : Int32), d)
    else
    some ((0 : Int32), d)
set_option maxRecDepth 100000 in
set_option maxHeartbeats 4000000 in
theorem am_X1_hasWay (p0 : Nat) (hp0 : kd p0 = 5) (p1 : Int32) (d : DD) : AM wrI mi_X1_hasWay 0 0 [.ref p0, .int p1] d (f_X1_hasWay p0 p1 d) := by
  refine AM_intro (si := si_X1_hasWay) (lv := [(0, .ref p0), (1, .int p1)]) rfl (by decide +kernel) rfl (Nat.le_of_ble_eq_true rfl) (fun E => ?_)
  unfold f_X1_hasWay
  refine r_iload_n_1 dX1_hasWay_0 rfl ?_
  refine r_if_lt (tgt := 20) dX1_hasWay_1 (by decide) ?_ ?_
  · refine r_iconst dX1_hasWay_20 ki_0 ?_
    exact r_zreturn dX1_hasWay_21 rfl rfl
  · refine r_iload_n_1 dX1_hasWay_4 rfl ?_
    refine r_iconst dX1_hasWay_5 ki_2 ?_
    refine r_iconst dX1_hasWay_6 ki_2 ?_
    refine r_aload_n_0 dX1_hasWay_7 rfl ?_
    refine r_geti (cc := 1) 0 hp0 rfl uX1 (by decide) rfl fw_X1_9 dX1_hasWay_8 ?_
    refine r_imul dX1_hasWay_11 ?_
    refine r_iadd dX1_hasWay_12 ?_
    refine r_icmp_ge (tgt := 20) dX1_hasWay_13 (by decide) ?_ ?_
    · refine r_iconst dX1_hasWay_20 ki_0 ?_
      exact r_zreturn dX1_hasWay_21 rfl rfl
    · refine r_iconst dX1_hasWay_16 ki_1 ?_
      refine r_goto (tgt := 21) dX1_hasWay_17 (by decide) ?_
      exact r_zreturn dX1_hasWay_21 rfl rfl
theorem cf_X1_hasWay : CFv mi_X1_hasWay 1 := ⟨iw_X1_hasWay, vw_X1_hasWay, nw_X1, cw_X1_hasWay, by unfold plainF; decide +kernel⟩
abbrev si_X1_hoursWithTurns : SI := (cX1_hoursWithTurns, RX1, 3, (some .int), 1, 21)
def f_X1_hoursWithTurns_4B (p0 : Nat) (k4 : Int32 → Int32 → DD → Option (Int32 × DD)) (v1 : Int32) (v2 : Int32) (d : DD) : Option (Int32 × DD) :=
  if v2 < (30 : Int32) then
  (f_X9_at (rf p0 10) v2 d).bind fun q1 =>
    if q1.1 = (-1 : Int32) then
    k4 v1 (v2 + (1 : Int32)) q1.2
    else
    k4 (v1 + (1 : Int32)) (v2 + (1 : Int32)) q1.2
  else
  some (v1, d)
def f_X1_hoursWithTurns_4 (p0 : Nat) : Nat → Int32 → Int32 → DD → Option (Int32 × DD)
  | 0, _, _, _ => none
  | n + 1, v1, v2, d => f_X1_hoursWithTurns_4B p0 (f_X1_hoursWithTurns_4 p0 n) v1 v2 d
set_option maxRecDepth 100000 in
set_option maxHeartbeats 4000000 in
theorem w_X1_hoursWithTurns_4B {E : XE} (p0 : Nat) (hp0 : kd p0 = 5) (k4 : Int32 → Int32 → DD → Option (Int32 × DD)) (hk4 : ∀ (v1 : Int32) (v2 : Int32) (d : DD), AW E si_X1_hoursWithTurns 0 0 (QM E wrI) (k4 v1 v2 d) 4 [(0, .ref p0), (1, .int v1), (2, .int v2)] [] d) (v1 : Int32) (v2 : Int32) (d : DD) : AW E si_X1_hoursWithTurns 0 0 (QM E wrI) (f_X1_hoursWithTurns_4B p0 k4 v1 v2 d) 4 [(0, .ref p0), (1, .int v1), (2, .int v2)] [] d := by
  unfold f_X1_hoursWithTurns_4B
  refine r_iload_n_2 dX1_hoursWithTurns_4 rfl ?_
  refine r_bipush dX1_hoursWithTurns_5 kb_30 ?_
  refine r_icmp_ge (tgt := 31) dX1_hoursWithTurns_7 (by decide) ?_ ?_
  · refine r_iload_n_1 dX1_hoursWithTurns_31 rfl ?_
    exact r_ireturn dX1_hoursWithTurns_32 rfl
  · refine r_aload_n_0 dX1_hoursWithTurns_10 rfl ?_
    refine r_getr (t := (rf p0 10)) (cc := 1) 10 hp0 rfl uX1 (by decide) rfl fw_X1_44 rfl dX1_hoursWithTurns_11 ?_
    refine r_iload_n_2 dX1_hoursWithTurns_14 rfl ?_
    refine r_callSNI [] (am_X9_at (rf p0 10) (kr_1_10 hp0) v2 d) cf_X9_at wn_X1_79 (by decide) dX1_hoursWithTurns_15 rfl (Nat.le_of_ble_eq_true rfl) ⟨rfl, rfl⟩ (fun q1 => ?_)
    refine r_iconst dX1_hoursWithTurns_18 ki_m1 ?_
    refine r_icmp_eq (tgt := 25) dX1_hoursWithTurns_19 (by decide) ?_ ?_
    · refine r_iinc_2 dX1_hoursWithTurns_25 ki_1 (by decide) rfl ?_
      refine r_goto (tgt := 4) dX1_hoursWithTurns_28 (by decide) ?_
      exact hk4 v1 (v2 + (1 : Int32)) q1.2
    · refine r_iinc_1 dX1_hoursWithTurns_22 ki_1 (by decide) rfl ?_
      refine r_iinc_2 dX1_hoursWithTurns_25 ki_1 (by decide) rfl ?_
      refine r_goto (tgt := 4) dX1_hoursWithTurns_28 (by decide) ?_
      exact hk4 (v1 + (1 : Int32)) (v2 + (1 : Int32)) q1.2
theorem w_X1_hoursWithTurns_4 {E : XE} (p0 : Nat) (hp0 : kd p0 = 5) (n : Nat) : ∀ (v1 : Int32) (v2 : Int32) (d : DD), AW E si_X1_hoursWithTurns 0 0 (QM E wrI) (f_X1_hoursWithTurns_4 p0 n v1 v2 d) 4 [(0, .ref p0), (1, .int v1), (2, .int v2)] [] d := by
  induction n with
  | zero => intros; exact r_none
  | succ n ih => intro v1 v2 d; exact w_X1_hoursWithTurns_4B p0 hp0 (f_X1_hoursWithTurns_4 p0 n) ih v1 v2 d
def f_X1_hoursWithTurns (p0 : Nat) (d : DD) : Option (Int32 × DD) :=
  f_X1_hoursWithTurns_4 p0 FU (0 : Int32) (0 : Int32) d
set_option maxRecDepth 100000 in
set_option maxHeartbeats 4000000 in
theorem am_X1_hoursWithTurns (p0 : Nat) (hp0 : kd p0 = 5) (d : DD) : AM wrI mi_X1_hoursWithTurns 1 21 [.ref p0] d (f_X1_hoursWithTurns p0 d) := by
  refine AM_intro (si := si_X1_hoursWithTurns) (lv := [(0, .ref p0)]) rfl (by decide +kernel) rfl (Nat.le_of_ble_eq_true rfl) (fun E => ?_)
  unfold f_X1_hoursWithTurns
  refine r_iconst dX1_hoursWithTurns_0 ki_0 ?_
  refine r_istore_n_x dX1_hoursWithTurns_1 rfl (by decide) rfl ?_
  refine r_iconst dX1_hoursWithTurns_2 ki_0 ?_
  refine r_istore_n_x dX1_hoursWithTurns_3 rfl (by decide) rfl ?_
  refine r_sub [2, 1, 0] (lv' := [(0, .ref p0), (1, .int (0 : Int32)), (2, .int (0 : Int32))]) rfl ?_
  exact w_X1_hoursWithTurns_4 p0 hp0 FU (0 : Int32) (0 : Int32) d
theorem cf_X1_hoursWithTurns : CFv mi_X1_hoursWithTurns 0 := ⟨iw_X1_hoursWithTurns, vw_X1_hoursWithTurns, nw_X1, cw_X1_hoursWithTurns, by unfold plainF; decide +kernel⟩
abbrev si_X1_isGain : SI := (cX1_isGain, RX1, 7, (some .boolean), 2, 43)
def f_X1_isGain (p0 : Nat) (p1 : Int32) (p2 : Int32) (p3 : Int32) (p4 : Int32) (d : DD) : Option (Int32 × DD) :=
  (f_X1_wantOf p0 p1 p4 d).bind fun q1 =>
  (f_X1_wantOf p0 p1 p2 q1.2).bind fun q2 =>
  bd (q1.1 - q2.1) fun x3 =>
  (f_X1_wantOf p0 p3 p2 q2.2).bind fun q4 =>
  (f_X1_wantOf p0 p3 p4 q4.2).bind fun q5 =>
  bd (q4.1 - q5.1) fun x6 =>
  if x3 < 0 then
  some ((0 : Int32), q5.2)
  else
  if x6 < 0 then
    some ((0 : Int32), q5.2)
    else
    if 0 < (x3 + x6) then
      some ((1 : Int32), q5.2)
      else
      some ((0 : Int32), q5.2)
set_option maxRecDepth 100000 in
set_option maxHeartbeats 4000000 in
theorem am_X1_isGain (p0 : Nat) (hp0 : kd p0 = 5) (p1 : Int32) (p2 : Int32) (p3 : Int32) (p4 : Int32) (d : DD) : AM wrI mi_X1_isGain 2 43 [.ref p0, .int p1, .int p2, .int p3, .int p4] d (f_X1_isGain p0 p1 p2 p3 p4 d) := by
  refine AM_intro (si := si_X1_isGain) (lv := [(0, .ref p0), (1, .int p1), (2, .int p2), (3, .int p3), (4, .int p4)]) rfl (by decide +kernel) rfl (Nat.le_of_ble_eq_true rfl) (fun E => ?_)
  unfold f_X1_isGain
  refine r_aload_n_0 dX1_isGain_0 rfl ?_
  refine r_iload_n_1 dX1_isGain_1 rfl ?_
  refine r_iload_w_4 dX1_isGain_2 ?_
  refine r_callVI (cc := 1) [] (am_X1_wantOf p0 hp0 p1 p4 d) hp0 rfl cf_X1_wantOf mw_X1_98 (by decide) dX1_isGain_4 rfl (Nat.le_of_ble_eq_true rfl) ⟨rfl, rfl⟩ (fun q1 => ?_)
  refine r_aload_n_0 dX1_isGain_7 rfl ?_
  refine r_iload_n_1 dX1_isGain_8 rfl ?_
  refine r_iload_n_2 dX1_isGain_9 rfl ?_
  refine r_callVI (cc := 1) [.int q1.1] (am_X1_wantOf p0 hp0 p1 p2 q1.2) hp0 rfl cf_X1_wantOf mw_X1_98 (by decide) dX1_isGain_10 rfl (Nat.le_of_ble_eq_true rfl) ⟨rfl, rfl⟩ (fun q2 => ?_)
  refine r_isub dX1_isGain_13 ?_
  refine r_bdI (fun x3 => ?_)
  refine r_istore_w_x dX1_isGain_14 (by decide) rfl ?_
  refine r_aload_n_1 dX1_isGain_16 rfl ?_
  refine r_iload_n_4 dX1_isGain_17 rfl ?_
  refine r_iload_n_3 dX1_isGain_18 rfl ?_
  refine r_callVI (cc := 1) [] (am_X1_wantOf p0 hp0 p3 p2 q2.2) hp0 rfl cf_X1_wantOf mw_X1_98 (by decide) dX1_isGain_19 rfl (Nat.le_of_ble_eq_true rfl) ⟨rfl, rfl⟩ (fun q4 => ?_)
  refine r_aload_n_1 dX1_isGain_22 rfl ?_
  refine r_iload_n_4 dX1_isGain_23 rfl ?_
  refine r_iload_w_5 dX1_isGain_24 ?_
  refine r_callVI (cc := 1) [.int q4.1] (am_X1_wantOf p0 hp0 p3 p4 q4.2) hp0 rfl cf_X1_wantOf mw_X1_98 (by decide) dX1_isGain_26 rfl (Nat.le_of_ble_eq_true rfl) ⟨rfl, rfl⟩ (fun q5 => ?_)
  refine r_isub dX1_isGain_29 ?_
  refine r_bdI (fun x6 => ?_)
  refine r_istore_w_x dX1_isGain_30 (by decide) rfl ?_
  refine r_iload_w_1 dX1_isGain_32 ?_
  refine r_if_lt (tgt := 54) dX1_isGain_34 (by decide) ?_ ?_
  · refine r_iconst dX1_isGain_54 ki_0 ?_
    exact r_zreturn dX1_isGain_55 rfl rfl
  · refine r_iload_w_0 dX1_isGain_37 ?_
    refine r_if_lt (tgt := 54) dX1_isGain_39 (by decide) ?_ ?_
    · refine r_iconst dX1_isGain_54 ki_0 ?_
      exact r_zreturn dX1_isGain_55 rfl rfl
    · refine r_iload_w_1 dX1_isGain_42 ?_
      refine r_iload_w_0 dX1_isGain_44 ?_
      refine r_iadd dX1_isGain_46 ?_
      refine r_if_le (tgt := 54) dX1_isGain_47 (by decide) ?_ ?_
      · refine r_iconst dX1_isGain_54 ki_0 ?_
        exact r_zreturn dX1_isGain_55 rfl rfl
      · refine r_iconst dX1_isGain_50 ki_1 ?_
        refine r_goto (tgt := 55) dX1_isGain_51 (by decide) ?_
        exact r_zreturn dX1_isGain_55 rfl rfl
theorem cf_X1_isGain : CFv mi_X1_isGain 4 := ⟨iw_X1_isGain, vw_X1_isGain, nw_X1, cw_X1_isGain, by unfold plainF; decide +kernel⟩
abbrev si_X1_passing : SI := (cX1_passing, RX1, 9, (some .long), 1, 21)
def f_X1_passing_34B (p0 : Nat) (k34 : Int32 → Int64 → Int32 → Int32 → Int32 → Int32 → DD → Option (Int64 × DD)) (v2 : Int32) (v3 : Int64) (v5 : Int32) (v6 : Int32) (v7 : Int32) (v8 : Int32) (d : DD) : Option (Int64 × DD) :=
  if (8 : Int32) < v8 then
  some (v3, d)
  else
  if v8 < v5 then
    k34 v2 v3 v5 v6 v7 (v8 + (1 : Int32)) d
    else
    if v6 < v8 then
      k34 v2 v3 v5 v6 v7 (v8 + (1 : Int32)) d
      else
      if v8 = 0 then none else
        bd (v3 ||| ((1 : Int64) <<< ((v7 + (v2 - v2 / v8 * v8)).toInt64 &&& 63))) fun x3 =>
        bd (v7 + v8) fun x4 =>
        k34 v2 x3 v5 v6 x4 (v8 + (1 : Int32)) d
def f_X1_passing_34 (p0 : Nat) : Nat → Int32 → Int64 → Int32 → Int32 → Int32 → Int32 → DD → Option (Int64 × DD)
  | 0, _, _, _, _, _, _, _ => none
  | n + 1, v2, v3, v5, v6, v7, v8, d => f_X1_passing_34B p0 (f_X1_passing_34 p0 n) v2 v3 v5 v6 v7 v8 d
set_option maxRecDepth 100000 in
set_option maxHeartbeats 4000000 in
theorem w_X1_passing_34B {E : XE} (p0 : Nat) (hp0 : kd p0 = 5) (k34 : Int32 → Int64 → Int32 → Int32 → Int32 → Int32 → DD → Option (Int64 × DD)) (hk34 : ∀ (v2 : Int32) (v3 : Int64) (v5 : Int32) (v6 : Int32) (v7 : Int32) (v8 : Int32) (d : DD), AW E si_X1_passing 0 0 (QM E wrL) (k34 v2 v3 v5 v6 v7 v8 d) 34 [(2, .int v2), (3, .long v3), (5, .int v5), (6, .int v6), (7, .int v7), (8, .int v8)] [] d) (v2 : Int32) (v3 : Int64) (v5 : Int32) (v6 : Int32) (v7 : Int32) (v8 : Int32) (d : DD) : AW E si_X1_passing 0 0 (QM E wrL) (f_X1_passing_34B p0 k34 v2 v3 v5 v6 v7 v8 d) 34 [(2, .int v2), (3, .long v3), (5, .int v5), (6, .int v6), (7, .int v7), (8, .int v8)] [] d := by
  unfold f_X1_passing_34B
  refine r_iload_w_5 dX1_passing_34 ?_
  refine r_bipush dX1_passing_36 kb_8 ?_
  refine r_icmp_gt (tgt := 80) dX1_passing_38 (by decide) ?_ ?_
  · refine r_lload_n_1 dX1_passing_80 rfl ?_
    exact r_lreturn dX1_passing_81 rfl
  · refine r_iload_w_5 dX1_passing_41 ?_
    refine r_iload_w_2 dX1_passing_43 ?_
    refine r_icmp_lt (tgt := 74) dX1_passing_45 (by decide) ?_ ?_
    · refine r_iinc_5 dX1_passing_74 ki_1 (by decide) rfl ?_
      refine r_goto (tgt := 34) dX1_passing_77 (by decide) ?_
      exact hk34 v2 v3 v5 v6 v7 (v8 + (1 : Int32)) d
    · refine r_iload_w_5 dX1_passing_48 ?_
      refine r_iload_w_3 dX1_passing_50 ?_
      refine r_icmp_gt (tgt := 74) dX1_passing_52 (by decide) ?_ ?_
      · refine r_iinc_5 dX1_passing_74 ki_1 (by decide) rfl ?_
        refine r_goto (tgt := 34) dX1_passing_77 (by decide) ?_
        exact hk34 v2 v3 v5 v6 v7 (v8 + (1 : Int32)) d
      · refine r_lload_n_1 dX1_passing_55 rfl ?_
        refine r_lconst dX1_passing_56 kl_1 ?_
        refine r_iload_w_4 dX1_passing_57 ?_
        refine r_iload_n_0 dX1_passing_59 rfl ?_
        refine r_iload_w_5 dX1_passing_60 ?_
        refine r_if (fun _ => r_none) (fun hy => r_irem dX1_passing_62 hy ?_)
        refine r_iadd dX1_passing_63 ?_
        refine r_lshl dX1_passing_64 ?_
        refine r_lor dX1_passing_65 ?_
        refine r_bdJ (fun x3 => ?_)
        refine r_lstore_n_1 dX1_passing_66 rfl (by decide) rfl ?_
        refine r_iload_w_4 dX1_passing_67 ?_
        refine r_iload_w_5 dX1_passing_69 ?_
        refine r_iadd dX1_passing_71 ?_
        refine r_bdI (fun x4 => ?_)
        refine r_istore_w_4 dX1_passing_72 (by decide) rfl ?_
        refine r_iinc_5 dX1_passing_74 ki_1 (by decide) rfl ?_
        refine r_goto (tgt := 34) dX1_passing_77 (by decide) ?_
        exact hk34 v2 x3 v5 v6 x4 (v8 + (1 : Int32)) d
theorem w_X1_passing_34 {E : XE} (p0 : Nat) (hp0 : kd p0 = 5) (n : Nat) : ∀ (v2 : Int32) (v3 : Int64) (v5 : Int32) (v6 : Int32) (v7 : Int32) (v8 : Int32) (d : DD), AW E si_X1_passing 0 0 (QM E wrL) (f_X1_passing_34 p0 n v2 v3 v5 v6 v7 v8 d) 34 [(2, .int v2), (3, .long v3), (5, .int v5), (6, .int v6), (7, .int v7), (8, .int v8)] [] d := by
  induction n with
  | zero => intros; exact r_none
  | succ n ih => intro v2 v3 v5 v6 v7 v8 d; exact w_X1_passing_34B p0 hp0 (f_X1_passing_34 p0 n) ih v2 v3 v5 v6 v7 v8 d
def f_X1_passing (p0 : Nat) (p1 : Int32) (p2 : Int32) (d : DD) : Option (Int64 × DD) :=
  if p2 < 0 then
  some ((0 : Int64), d)
  else
  (f_X9_at (rf p0 3) p1 d).bind fun q1 =>
    (f_X9_at (rf p0 4) p1 q1.2).bind fun q2 =>
    f_X1_passing_34 p0 FU p2 (0 : Int64) q1.1 q2.1 (0 : Int32) (1 : Int32) q2.2
set_option maxRecDepth 100000 in
set_option maxHeartbeats 4000000 in
theorem am_X1_passing (p0 : Nat) (hp0 : kd p0 = 5) (p1 : Int32) (p2 : Int32) (d : DD) : AM wrL mi_X1_passing 1 21 [.ref p0, .int p1, .int p2] d (f_X1_passing p0 p1 p2 d) := by
  refine AM_intro (si := si_X1_passing) (lv := [(0, .ref p0), (1, .int p1), (2, .int p2)]) rfl (by decide +kernel) rfl (Nat.le_of_ble_eq_true rfl) (fun E => ?_)
  unfold f_X1_passing
  refine r_lconst dX1_passing_0 kl_0 ?_
  refine r_lstore_n_x dX1_passing_1 rfl (by decide) rfl ?_
  refine r_iload_n_3 dX1_passing_2 rfl ?_
  refine r_if_ge (tgt := 8) dX1_passing_3 (by decide) ?_ ?_
  · refine r_aload_n_1 dX1_passing_8 rfl ?_
    refine r_getr (t := (rf p0 3)) (cc := 1) 3 hp0 rfl uX1 (by decide) rfl fw_X1_22 rfl dX1_passing_9 ?_
    refine r_iload_n_2 dX1_passing_12 rfl ?_
    refine r_callSNI [] (am_X9_at (rf p0 3) (kr_1_3 hp0) p1 d) cf_X9_at wn_X1_79 (by decide) dX1_passing_13 rfl (Nat.le_of_ble_eq_true rfl) ⟨rfl, rfl⟩ (fun q1 => ?_)
    refine r_istore_w_x dX1_passing_16 (by decide) rfl ?_
    refine r_aload_n_2 dX1_passing_18 rfl ?_
    refine r_getr (t := (rf p0 4)) (cc := 1) 4 hp0 rfl uX1 (by decide) rfl fw_X1_26 rfl dX1_passing_19 ?_
    refine r_iload_n_3 dX1_passing_22 rfl ?_
    refine r_callSNI [] (am_X9_at (rf p0 4) (kr_1_4 hp0) p1 q1.2) cf_X9_at wn_X1_79 (by decide) dX1_passing_23 rfl (Nat.le_of_ble_eq_true rfl) ⟨rfl, rfl⟩ (fun q2 => ?_)
    refine r_istore_w_x dX1_passing_26 (by decide) rfl ?_
    refine r_iconst dX1_passing_28 ki_0 ?_
    refine r_istore_w_x dX1_passing_29 (by decide) rfl ?_
    refine r_iconst dX1_passing_31 ki_1 ?_
    refine r_istore_w_x dX1_passing_32 (by decide) rfl ?_
    refine r_sub [7, 4, 3, 2, 1, 0] (lv' := [(2, .int p2), (3, .long (0 : Int64)), (5, .int q1.1), (6, .int q2.1), (7, .int (0 : Int32)), (8, .int (1 : Int32))]) rfl ?_
    exact w_X1_passing_34 p0 hp0 FU p2 (0 : Int64) q1.1 q2.1 (0 : Int32) (1 : Int32) q2.2
  · refine r_lload_n_0 dX1_passing_6 rfl ?_
    exact r_lreturn dX1_passing_7 rfl
theorem cf_X1_passing : CFv mi_X1_passing 2 := ⟨iw_X1_passing, vw_X1_passing, nw_X1, cw_X1_passing, by unfold plainF; decide +kernel⟩
abbrev si_X1_tradeOnce : SI := (cX1_tradeOnce, RX1, 5, (some .boolean), 3, 69)
def f_X1_tradeOnce_12B (p0 : Nat) (k2 : Int32 → DD → Option (Int32 × DD)) (k12 : Int32 → Int32 → DD → Option (Int32 × DD)) (v1 : Int32) (v2 : Int32) (d : DD) : Option (Int32 × DD) :=
  if v2 < (30 : Int32) then
  (f_X9_at (rf p0 10) v1 d).bind fun q2 =>
    (f_X9_at (rf p0 10) v2 q2.2).bind fun q3 =>
    if q2.1 = (-1 : Int32) then
    k12 v1 (v2 + (1 : Int32)) q3.2
    else
    if q3.1 = (-1 : Int32) then
      k12 v1 (v2 + (1 : Int32)) q3.2
      else
      if q2.1 = q3.1 then
        k12 v1 (v2 + (1 : Int32)) q3.2
        else
        (f_X1_isGain p0 q2.1 v1 q3.1 v2 q3.2).bind fun q4 =>
          if q4.1 = 0 then
          k12 v1 (v2 + (1 : Int32)) q4.2
          else
          (f_X9_put (rf p0 10) v1 q3.1 q4.2).bind fun q5 =>
            (f_X9_put (rf p0 10) v2 q2.1 q5.2).bind fun q6 =>
            some ((1 : Int32), q6.2)
  else
  k2 (v1 + (1 : Int32)) d
def f_X1_tradeOnce_12 (p0 : Nat) (k2 : Int32 → DD → Option (Int32 × DD)) : Nat → Int32 → Int32 → DD → Option (Int32 × DD)
  | 0, _, _, _ => none
  | n + 1, v1, v2, d => f_X1_tradeOnce_12B p0 k2 (f_X1_tradeOnce_12 p0 k2 n) v1 v2 d
set_option maxRecDepth 100000 in
set_option maxHeartbeats 4000000 in
theorem w_X1_tradeOnce_12B {E : XE} (p0 : Nat) (hp0 : kd p0 = 5) (k2 : Int32 → DD → Option (Int32 × DD)) (hk2 : ∀ (v1 : Int32) (d : DD), AW E si_X1_tradeOnce 0 0 (QM E wrI) (k2 v1 d) 2 [(0, .ref p0), (1, .int v1)] [] d) (k12 : Int32 → Int32 → DD → Option (Int32 × DD)) (hk12 : ∀ (v1 : Int32) (v2 : Int32) (d : DD), AW E si_X1_tradeOnce 0 0 (QM E wrI) (k12 v1 v2 d) 12 [(0, .ref p0), (1, .int v1), (2, .int v2)] [] d) (v1 : Int32) (v2 : Int32) (d : DD) : AW E si_X1_tradeOnce 0 0 (QM E wrI) (f_X1_tradeOnce_12B p0 k2 k12 v1 v2 d) 12 [(0, .ref p0), (1, .int v1), (2, .int v2)] [] d := by
  unfold f_X1_tradeOnce_12B
  refine r_iload_n_2 dX1_tradeOnce_12 rfl ?_
  refine r_bipush dX1_tradeOnce_13 kb_30 ?_
  refine r_icmp_ge (tgt := 93) dX1_tradeOnce_15 (by decide) ?_ ?_
  · refine r_iinc_1 dX1_tradeOnce_93 ki_1 (by decide) rfl ?_
    refine r_goto (tgt := 2) dX1_tradeOnce_96 (by decide) ?_
    refine r_sub [0, 1] (lv' := [(0, .ref p0), (1, .int (v1 + (1 : Int32)))]) rfl ?_
    exact hk2 (v1 + (1 : Int32)) d
  · refine r_aload_n_0 dX1_tradeOnce_18 rfl ?_
    refine r_getr (t := (rf p0 10)) (cc := 1) 10 hp0 rfl uX1 (by decide) rfl fw_X1_44 rfl dX1_tradeOnce_19 ?_
    refine r_iload_n_1 dX1_tradeOnce_22 rfl ?_
    refine r_callSNI [] (am_X9_at (rf p0 10) (kr_1_10 hp0) v1 d) cf_X9_at wn_X1_79 (by decide) dX1_tradeOnce_23 rfl (Nat.le_of_ble_eq_true rfl) ⟨rfl, rfl⟩ (fun q2 => ?_)
    refine r_istore_n_x dX1_tradeOnce_26 rfl (by decide) rfl ?_
    refine r_aload_n_1 dX1_tradeOnce_27 rfl ?_
    refine r_getr (t := (rf p0 10)) (cc := 1) 10 hp0 rfl uX1 (by decide) rfl fw_X1_44 rfl dX1_tradeOnce_28 ?_
    refine r_iload_n_3 dX1_tradeOnce_31 rfl ?_
    refine r_callSNI [] (am_X9_at (rf p0 10) (kr_1_10 hp0) v2 q2.2) cf_X9_at wn_X1_79 (by decide) dX1_tradeOnce_32 rfl (Nat.le_of_ble_eq_true rfl) ⟨rfl, rfl⟩ (fun q3 => ?_)
    refine r_istore_w_x dX1_tradeOnce_35 (by decide) rfl ?_
    refine r_iload_n_1 dX1_tradeOnce_37 rfl ?_
    refine r_iconst dX1_tradeOnce_38 ki_m1 ?_
    refine r_icmp_eq (tgt := 87) dX1_tradeOnce_39 (by decide) ?_ ?_
    · refine r_iinc_4 dX1_tradeOnce_87 ki_1 (by decide) rfl ?_
      refine r_goto (tgt := 12) dX1_tradeOnce_90 (by decide) ?_
      refine r_sub [2, 3, 4] (lv' := [(0, .ref p0), (1, .int v1), (2, .int (v2 + (1 : Int32)))]) rfl ?_
      exact hk12 v1 (v2 + (1 : Int32)) q3.2
    · refine r_iload_w_0 dX1_tradeOnce_42 ?_
      refine r_iconst dX1_tradeOnce_44 ki_m1 ?_
      refine r_icmp_eq (tgt := 87) dX1_tradeOnce_45 (by decide) ?_ ?_
      · refine r_iinc_4 dX1_tradeOnce_87 ki_1 (by decide) rfl ?_
        refine r_goto (tgt := 12) dX1_tradeOnce_90 (by decide) ?_
        refine r_sub [2, 3, 4] (lv' := [(0, .ref p0), (1, .int v1), (2, .int (v2 + (1 : Int32)))]) rfl ?_
        exact hk12 v1 (v2 + (1 : Int32)) q3.2
      · refine r_iload_n_1 dX1_tradeOnce_48 rfl ?_
        refine r_iload_w_0 dX1_tradeOnce_49 ?_
        refine r_icmp_eq (tgt := 87) dX1_tradeOnce_51 (by decide) ?_ ?_
        · refine r_iinc_4 dX1_tradeOnce_87 ki_1 (by decide) rfl ?_
          refine r_goto (tgt := 12) dX1_tradeOnce_90 (by decide) ?_
          refine r_sub [2, 3, 4] (lv' := [(0, .ref p0), (1, .int v1), (2, .int (v2 + (1 : Int32)))]) rfl ?_
          exact hk12 v1 (v2 + (1 : Int32)) q3.2
        · refine r_aload_n_2 dX1_tradeOnce_54 rfl ?_
          refine r_iload_n_1 dX1_tradeOnce_55 rfl ?_
          refine r_iload_n_3 dX1_tradeOnce_56 rfl ?_
          refine r_iload_w_0 dX1_tradeOnce_57 ?_
          refine r_iload_n_4 dX1_tradeOnce_59 rfl ?_
          refine r_callVI (cc := 1) [] (am_X1_isGain p0 hp0 q2.1 v1 q3.1 v2 q3.2) hp0 rfl cf_X1_isGain mw_X1_101 (by decide) dX1_tradeOnce_60 rfl (Nat.le_of_ble_eq_true rfl) ⟨rfl, rfl⟩ (fun q4 => ?_)
          refine r_if_eq (tgt := 87) dX1_tradeOnce_63 (by decide) ?_ ?_
          · refine r_iinc_4 dX1_tradeOnce_87 ki_1 (by decide) rfl ?_
            refine r_goto (tgt := 12) dX1_tradeOnce_90 (by decide) ?_
            refine r_sub [2, 3, 4] (lv' := [(0, .ref p0), (1, .int v1), (2, .int (v2 + (1 : Int32)))]) rfl ?_
            exact hk12 v1 (v2 + (1 : Int32)) q4.2
          · refine r_aload_n_2 dX1_tradeOnce_66 rfl ?_
            refine r_getr (t := (rf p0 10)) (cc := 1) 10 hp0 rfl uX1 (by decide) rfl fw_X1_44 rfl dX1_tradeOnce_67 ?_
            refine r_iload_n_3 dX1_tradeOnce_70 rfl ?_
            refine r_iload_w_0 dX1_tradeOnce_71 ?_
            refine r_callSNU [] (am_X9_put (rf p0 10) (kr_1_10 hp0) v1 q3.1 q4.2) cf_X9_put wn_X1_105 (by decide) dX1_tradeOnce_73 rfl (Nat.le_of_ble_eq_true rfl) ⟨rfl, rfl⟩ (fun q5 => ?_)
            refine r_aload_n_2 dX1_tradeOnce_76 rfl ?_
            refine r_getr (t := (rf p0 10)) (cc := 1) 10 hp0 rfl uX1 (by decide) rfl fw_X1_44 rfl dX1_tradeOnce_77 ?_
            refine r_iload_n_4 dX1_tradeOnce_80 rfl ?_
            refine r_iload_n_1 dX1_tradeOnce_81 rfl ?_
            refine r_callSNU [] (am_X9_put (rf p0 10) (kr_1_10 hp0) v2 q2.1 q5.2) cf_X9_put wn_X1_105 (by decide) dX1_tradeOnce_82 rfl (Nat.le_of_ble_eq_true rfl) ⟨rfl, rfl⟩ (fun q6 => ?_)
            refine r_iconst dX1_tradeOnce_85 ki_1 ?_
            exact r_zreturn dX1_tradeOnce_86 rfl rfl
theorem w_X1_tradeOnce_12 {E : XE} (p0 : Nat) (hp0 : kd p0 = 5) (k2 : Int32 → DD → Option (Int32 × DD)) (hk2 : ∀ (v1 : Int32) (d : DD), AW E si_X1_tradeOnce 0 0 (QM E wrI) (k2 v1 d) 2 [(0, .ref p0), (1, .int v1)] [] d) (n : Nat) : ∀ (v1 : Int32) (v2 : Int32) (d : DD), AW E si_X1_tradeOnce 0 0 (QM E wrI) (f_X1_tradeOnce_12 p0 k2 n v1 v2 d) 12 [(0, .ref p0), (1, .int v1), (2, .int v2)] [] d := by
  induction n with
  | zero => intros; exact r_none
  | succ n ih => intro v1 v2 d; exact w_X1_tradeOnce_12B p0 hp0 k2 hk2 (f_X1_tradeOnce_12 p0 k2 n) ih v1 v2 d
def f_X1_tradeOnce_2B (p0 : Nat) (k2 : Int32 → DD → Option (Int32 × DD)) (v1 : Int32) (d : DD) : Option (Int32 × DD) :=
  if v1 < (30 : Int32) then
  bd (v1 + (1 : Int32)) fun x1 =>
    f_X1_tradeOnce_12 p0 k2 FU v1 x1 d
  else
  some ((0 : Int32), d)
def f_X1_tradeOnce_2 (p0 : Nat) : Nat → Int32 → DD → Option (Int32 × DD)
  | 0, _, _ => none
  | n + 1, v1, d => f_X1_tradeOnce_2B p0 (f_X1_tradeOnce_2 p0 n) v1 d
set_option maxRecDepth 100000 in
set_option maxHeartbeats 4000000 in
theorem w_X1_tradeOnce_2B {E : XE} (p0 : Nat) (hp0 : kd p0 = 5) (k2 : Int32 → DD → Option (Int32 × DD)) (hk2 : ∀ (v1 : Int32) (d : DD), AW E si_X1_tradeOnce 0 0 (QM E wrI) (k2 v1 d) 2 [(0, .ref p0), (1, .int v1)] [] d) (v1 : Int32) (d : DD) : AW E si_X1_tradeOnce 0 0 (QM E wrI) (f_X1_tradeOnce_2B p0 k2 v1 d) 2 [(0, .ref p0), (1, .int v1)] [] d := by
  unfold f_X1_tradeOnce_2B
  refine r_iload_n_1 dX1_tradeOnce_2 rfl ?_
  refine r_bipush dX1_tradeOnce_3 kb_30 ?_
  refine r_icmp_ge (tgt := 99) dX1_tradeOnce_5 (by decide) ?_ ?_
  · refine r_iconst dX1_tradeOnce_99 ki_0 ?_
    exact r_zreturn dX1_tradeOnce_100 rfl rfl
  · refine r_iload_n_1 dX1_tradeOnce_8 rfl ?_
    refine r_iconst dX1_tradeOnce_9 ki_1 ?_
    refine r_iadd dX1_tradeOnce_10 ?_
    refine r_bdI (fun x1 => ?_)
    refine r_istore_n_x dX1_tradeOnce_11 rfl (by decide) rfl ?_
    refine r_sub [1, 2, 0] (lv' := [(0, .ref p0), (1, .int v1), (2, .int x1)]) rfl ?_
    exact w_X1_tradeOnce_12 p0 hp0 k2 hk2 FU v1 x1 d
theorem w_X1_tradeOnce_2 {E : XE} (p0 : Nat) (hp0 : kd p0 = 5) (n : Nat) : ∀ (v1 : Int32) (d : DD), AW E si_X1_tradeOnce 0 0 (QM E wrI) (f_X1_tradeOnce_2 p0 n v1 d) 2 [(0, .ref p0), (1, .int v1)] [] d := by
  induction n with
  | zero => intros; exact r_none
  | succ n ih => intro v1 d; exact w_X1_tradeOnce_2B p0 hp0 (f_X1_tradeOnce_2 p0 n) ih v1 d
def f_X1_tradeOnce (p0 : Nat) (d : DD) : Option (Int32 × DD) :=
  f_X1_tradeOnce_2 p0 FU (0 : Int32) d
set_option maxRecDepth 100000 in
set_option maxHeartbeats 4000000 in
theorem am_X1_tradeOnce (p0 : Nat) (hp0 : kd p0 = 5) (d : DD) : AM wrI mi_X1_tradeOnce 3 69 [.ref p0] d (f_X1_tradeOnce p0 d) := by
  refine AM_intro (si := si_X1_tradeOnce) (lv := [(0, .ref p0)]) rfl (by decide +kernel) rfl (Nat.le_of_ble_eq_true rfl) (fun E => ?_)
  unfold f_X1_tradeOnce
  refine r_iconst dX1_tradeOnce_0 ki_0 ?_
  refine r_istore_n_x dX1_tradeOnce_1 rfl (by decide) rfl ?_
  refine r_sub [1, 0] (lv' := [(0, .ref p0), (1, .int (0 : Int32))]) rfl ?_
  exact w_X1_tradeOnce_2 p0 hp0 FU (0 : Int32) d
theorem cf_X1_tradeOnce : CFv mi_X1_tradeOnce 0 := ⟨iw_X1_tradeOnce, vw_X1_tradeOnce, nw_X1, cw_X1_tradeOnce, by unfold plainF; decide +kernel⟩
abbrev si_X9_toldBy : SI := (cX9_toldBy, RX9, 3, (some .int), 0, 0)
def f_X9_toldBy (p0 : Int32) (p1 : Int32) (d : DD) : Option (Int32 × DD) :=
  if (1 : Int32) < p0 then
  bd ((1 : Int32) <<< (((p0 - (2 : Int32)) / (2 : Int32)) &&& 31)) fun x1 =>
    if (p0 &&& (1 : Int32)) = 0 then
    some (p1 &&& (x1 ^^^ (-1 : Int32)), d)
    else
    some (p1 ||| x1, d)
  else
  some (p1, d)
set_option maxRecDepth 100000 in
set_option maxHeartbeats 4000000 in
theorem am_X9_toldBy (p0 : Int32) (p1 : Int32) (d : DD) : AM wrI mi_X9_toldBy 0 0 [.int p0, .int p1] d (f_X9_toldBy p0 p1 d) := by
  refine AM_intro (si := si_X9_toldBy) (lv := [(0, .int p0), (1, .int p1)]) rfl (by decide +kernel) rfl (Nat.le_of_ble_eq_true rfl) (fun E => ?_)
  unfold f_X9_toldBy
  refine r_iload_n_0 dX9_toldBy_0 rfl ?_
  refine r_iconst dX9_toldBy_1 ki_1 ?_
  refine r_icmp_gt (tgt := 7) dX9_toldBy_2 (by decide) ?_ ?_
  · refine r_iconst dX9_toldBy_7 ki_1 ?_
    refine r_iload_n_0 dX9_toldBy_8 rfl ?_
    refine r_iconst dX9_toldBy_9 ki_2 ?_
    refine r_isub dX9_toldBy_10 ?_
    refine r_iconst dX9_toldBy_11 ki_2 ?_
    refine r_idiv dX9_toldBy_12 (by decide) ?_
    refine r_ishl dX9_toldBy_13 ?_
    refine r_bdI (fun x1 => ?_)
    refine r_istore_n_x dX9_toldBy_14 rfl (by decide) rfl ?_
    refine r_iload_n_1 dX9_toldBy_15 rfl ?_
    refine r_iconst dX9_toldBy_16 ki_1 ?_
    refine r_iand dX9_toldBy_17 ?_
    refine r_if_ne (tgt := 29) dX9_toldBy_18 (by decide) ?_ ?_
    · refine r_iload_n_2 dX9_toldBy_29 rfl ?_
      refine r_iload_n_0 dX9_toldBy_30 rfl ?_
      refine r_ior dX9_toldBy_31 ?_
      exact r_ireturn dX9_toldBy_32 rfl
    · refine r_iload_n_2 dX9_toldBy_21 rfl ?_
      refine r_iload_n_0 dX9_toldBy_22 rfl ?_
      refine r_iconst dX9_toldBy_23 ki_m1 ?_
      refine r_ixor dX9_toldBy_24 ?_
      refine r_iand dX9_toldBy_25 ?_
      refine r_goto (tgt := 32) dX9_toldBy_26 (by decide) ?_
      exact r_ireturn dX9_toldBy_32 rfl
  · refine r_iload_n_1 dX9_toldBy_5 rfl ?_
    exact r_ireturn dX9_toldBy_6 rfl
theorem cf_X9_toldBy : CFs mi_X9_toldBy 2 := ⟨sw_X9_toldBy, nw_X9, cw_X9_toldBy, by unfold plainF; decide +kernel⟩
abbrev si_X1_trulyTold : SI := (cX1_trulyTold, RX1, 7, (some .int), 2, 49)
def f_X1_trulyTold_5B (p0 : Nat) (k5 : Int32 → Int32 → Int32 → Int32 → DD → Option (Int32 × DD)) (v1 : Int32) (v2 : Int32) (v3 : Int32) (v4 : Int32) (d : DD) : Option (Int32 × DD) :=
  if v4 < (d.1 p0 0) then
  if v1 = (1 : Int32) then
    (f_X1_passing p0 v4 (v2 - (1 : Int32)) d).bind fun q5 =>
      (f_X9_at (rf p0 5) v4 q5.2).bind fun q6 =>
      if ((lushr q5.1 q6.1) &&& (1 : Int64)) = (1 : Int64) then
      bd (v3 ||| ((1 : Int32) <<< (v4 &&& 31))) fun x7 =>
        k5 v1 v2 x7 (v4 + (1 : Int32)) q6.2
      else
      k5 v1 v2 v3 (v4 + (1 : Int32)) q6.2
    else
    (f_X1_passing p0 v4 v2 d).bind fun q2 =>
      (f_X9_at (rf p0 5) v4 q2.2).bind fun q3 =>
      if ((lushr q2.1 q3.1) &&& (1 : Int64)) = (1 : Int64) then
      bd (v3 ||| ((1 : Int32) <<< (v4 &&& 31))) fun x4 =>
        k5 v1 v2 x4 (v4 + (1 : Int32)) q3.2
      else
      k5 v1 v2 v3 (v4 + (1 : Int32)) q3.2
  else
  (f_X9_toldBy v1 v3 d).bind fun q1 =>
    some (q1.1, q1.2)
def f_X1_trulyTold_5 (p0 : Nat) : Nat → Int32 → Int32 → Int32 → Int32 → DD → Option (Int32 × DD)
  | 0, _, _, _, _, _ => none
  | n + 1, v1, v2, v3, v4, d => f_X1_trulyTold_5B p0 (f_X1_trulyTold_5 p0 n) v1 v2 v3 v4 d
set_option maxRecDepth 100000 in
set_option maxHeartbeats 4000000 in
theorem w_X1_trulyTold_5B {E : XE} (p0 : Nat) (hp0 : kd p0 = 5) (k5 : Int32 → Int32 → Int32 → Int32 → DD → Option (Int32 × DD)) (hk5 : ∀ (v1 : Int32) (v2 : Int32) (v3 : Int32) (v4 : Int32) (d : DD), AW E si_X1_trulyTold 0 0 (QM E wrI) (k5 v1 v2 v3 v4 d) 5 [(0, .ref p0), (1, .int v1), (2, .int v2), (3, .int v3), (4, .int v4)] [] d) (v1 : Int32) (v2 : Int32) (v3 : Int32) (v4 : Int32) (d : DD) : AW E si_X1_trulyTold 0 0 (QM E wrI) (f_X1_trulyTold_5B p0 k5 v1 v2 v3 v4 d) 5 [(0, .ref p0), (1, .int v1), (2, .int v2), (3, .int v3), (4, .int v4)] [] d := by
  unfold f_X1_trulyTold_5B
  refine r_iload_w_4 dX1_trulyTold_5 ?_
  refine r_aload_n_0 dX1_trulyTold_7 rfl ?_
  refine r_geti (cc := 1) 0 hp0 rfl uX1 (by decide) rfl fw_X1_9 dX1_trulyTold_8 ?_
  refine r_icmp_ge (tgt := 66) dX1_trulyTold_11 (by decide) ?_ ?_
  · refine r_iload_n_1 dX1_trulyTold_66 rfl ?_
    refine r_iload_n_3 dX1_trulyTold_67 rfl ?_
    refine r_callSNI [] (am_X9_toldBy v1 v3 d) cf_X9_toldBy wn_X1_95 (by decide) dX1_trulyTold_68 rfl (Nat.le_of_ble_eq_true rfl) ⟨rfl, rfl⟩ (fun q1 => ?_)
    exact r_ireturn dX1_trulyTold_71 rfl
  · refine r_aload_n_0 dX1_trulyTold_14 rfl ?_
    refine r_iload_w_4 dX1_trulyTold_15 ?_
    refine r_iload_n_1 dX1_trulyTold_17 rfl ?_
    refine r_iconst dX1_trulyTold_18 ki_1 ?_
    refine r_icmp_ne (tgt := 28) dX1_trulyTold_19 (by decide) ?_ ?_
    · refine r_iload_n_2 dX1_trulyTold_28 rfl ?_
      refine r_callVL (cc := 1) [] (am_X1_passing p0 hp0 v4 v2 d) hp0 rfl cf_X1_passing mw_X1_91 (by decide) dX1_trulyTold_29 rfl (Nat.le_of_ble_eq_true rfl) ⟨rfl, rfl⟩ (fun q2 => ?_)
      refine r_lstore_w_x dX1_trulyTold_32 (by decide) rfl ?_
      refine r_lload_w_0 dX1_trulyTold_34 ?_
      refine r_aload_n_1 dX1_trulyTold_36 rfl ?_
      refine r_getr (t := (rf p0 5)) (cc := 1) 5 hp0 rfl uX1 (by decide) rfl fw_X1_29 rfl dX1_trulyTold_37 ?_
      refine r_iload_w_5 dX1_trulyTold_40 ?_
      refine r_callSNI [.long q2.1] (am_X9_at (rf p0 5) (kr_1_5 hp0) v4 q2.2) cf_X9_at wn_X1_79 (by decide) dX1_trulyTold_42 rfl (Nat.le_of_ble_eq_true rfl) ⟨rfl, rfl⟩ (fun q3 => ?_)
      refine r_lushr dX1_trulyTold_45 ?_
      refine r_lconst dX1_trulyTold_46 kl_1 ?_
      refine r_land dX1_trulyTold_47 ?_
      refine r_lconst dX1_trulyTold_48 kl_1 ?_
      refine r_lcmp_ne (tgt := 60) dX1_trulyTold_49 dX1_trulyTold_50 (by decide) ?_ ?_
      · refine r_iinc_5 dX1_trulyTold_60 ki_1 (by decide) rfl ?_
        refine r_goto (tgt := 5) dX1_trulyTold_63 (by decide) ?_
        refine r_sub [1, 2, 3, 4, 5] (lv' := [(0, .ref p0), (1, .int v1), (2, .int v2), (3, .int v3), (4, .int (v4 + (1 : Int32)))]) rfl ?_
        exact hk5 v1 v2 v3 (v4 + (1 : Int32)) q3.2
      · refine r_iload_n_4 dX1_trulyTold_53 rfl ?_
        refine r_iconst dX1_trulyTold_54 ki_1 ?_
        refine r_iload_w_5 dX1_trulyTold_55 ?_
        refine r_ishl dX1_trulyTold_57 ?_
        refine r_ior dX1_trulyTold_58 ?_
        refine r_bdI (fun x4 => ?_)
        refine r_istore_n_4 dX1_trulyTold_59 rfl (by decide) rfl ?_
        refine r_iinc_5 dX1_trulyTold_60 ki_1 (by decide) rfl ?_
        refine r_goto (tgt := 5) dX1_trulyTold_63 (by decide) ?_
        refine r_sub [1, 2, 3, 4, 5] (lv' := [(0, .ref p0), (1, .int v1), (2, .int v2), (3, .int x4), (4, .int (v4 + (1 : Int32)))]) rfl ?_
        exact hk5 v1 v2 x4 (v4 + (1 : Int32)) q3.2
    · refine r_iload_n_2 dX1_trulyTold_22 rfl ?_
      refine r_iconst dX1_trulyTold_23 ki_1 ?_
      refine r_isub dX1_trulyTold_24 ?_
      refine r_goto (tgt := 29) dX1_trulyTold_25 (by decide) ?_
      refine r_callVL (cc := 1) [] (am_X1_passing p0 hp0 v4 (v2 - (1 : Int32)) d) hp0 rfl cf_X1_passing mw_X1_91 (by decide) dX1_trulyTold_29 rfl (Nat.le_of_ble_eq_true rfl) ⟨rfl, rfl⟩ (fun q5 => ?_)
      refine r_lstore_w_x dX1_trulyTold_32 (by decide) rfl ?_
      refine r_lload_w_0 dX1_trulyTold_34 ?_
      refine r_aload_n_1 dX1_trulyTold_36 rfl ?_
      refine r_getr (t := (rf p0 5)) (cc := 1) 5 hp0 rfl uX1 (by decide) rfl fw_X1_29 rfl dX1_trulyTold_37 ?_
      refine r_iload_w_5 dX1_trulyTold_40 ?_
      refine r_callSNI [.long q5.1] (am_X9_at (rf p0 5) (kr_1_5 hp0) v4 q5.2) cf_X9_at wn_X1_79 (by decide) dX1_trulyTold_42 rfl (Nat.le_of_ble_eq_true rfl) ⟨rfl, rfl⟩ (fun q6 => ?_)
      refine r_lushr dX1_trulyTold_45 ?_
      refine r_lconst dX1_trulyTold_46 kl_1 ?_
      refine r_land dX1_trulyTold_47 ?_
      refine r_lconst dX1_trulyTold_48 kl_1 ?_
      refine r_lcmp_ne (tgt := 60) dX1_trulyTold_49 dX1_trulyTold_50 (by decide) ?_ ?_
      · refine r_iinc_5 dX1_trulyTold_60 ki_1 (by decide) rfl ?_
        refine r_goto (tgt := 5) dX1_trulyTold_63 (by decide) ?_
        refine r_sub [1, 2, 3, 4, 5] (lv' := [(0, .ref p0), (1, .int v1), (2, .int v2), (3, .int v3), (4, .int (v4 + (1 : Int32)))]) rfl ?_
        exact hk5 v1 v2 v3 (v4 + (1 : Int32)) q6.2
      · refine r_iload_n_4 dX1_trulyTold_53 rfl ?_
        refine r_iconst dX1_trulyTold_54 ki_1 ?_
        refine r_iload_w_5 dX1_trulyTold_55 ?_
        refine r_ishl dX1_trulyTold_57 ?_
        refine r_ior dX1_trulyTold_58 ?_
        refine r_bdI (fun x7 => ?_)
        refine r_istore_n_4 dX1_trulyTold_59 rfl (by decide) rfl ?_
        refine r_iinc_5 dX1_trulyTold_60 ki_1 (by decide) rfl ?_
        refine r_goto (tgt := 5) dX1_trulyTold_63 (by decide) ?_
        refine r_sub [1, 2, 3, 4, 5] (lv' := [(0, .ref p0), (1, .int v1), (2, .int v2), (3, .int x7), (4, .int (v4 + (1 : Int32)))]) rfl ?_
        exact hk5 v1 v2 x7 (v4 + (1 : Int32)) q6.2
theorem w_X1_trulyTold_5 {E : XE} (p0 : Nat) (hp0 : kd p0 = 5) (n : Nat) : ∀ (v1 : Int32) (v2 : Int32) (v3 : Int32) (v4 : Int32) (d : DD), AW E si_X1_trulyTold 0 0 (QM E wrI) (f_X1_trulyTold_5 p0 n v1 v2 v3 v4 d) 5 [(0, .ref p0), (1, .int v1), (2, .int v2), (3, .int v3), (4, .int v4)] [] d := by
  induction n with
  | zero => intros; exact r_none
  | succ n ih => intro v1 v2 v3 v4 d; exact w_X1_trulyTold_5B p0 hp0 (f_X1_trulyTold_5 p0 n) ih v1 v2 v3 v4 d
def f_X1_trulyTold (p0 : Nat) (p1 : Int32) (p2 : Int32) (d : DD) : Option (Int32 × DD) :=
  f_X1_trulyTold_5 p0 FU p1 p2 (0 : Int32) (0 : Int32) d
set_option maxRecDepth 100000 in
set_option maxHeartbeats 4000000 in
theorem am_X1_trulyTold (p0 : Nat) (hp0 : kd p0 = 5) (p1 : Int32) (p2 : Int32) (d : DD) : AM wrI mi_X1_trulyTold 2 49 [.ref p0, .int p1, .int p2] d (f_X1_trulyTold p0 p1 p2 d) := by
  refine AM_intro (si := si_X1_trulyTold) (lv := [(0, .ref p0), (1, .int p1), (2, .int p2)]) rfl (by decide +kernel) rfl (Nat.le_of_ble_eq_true rfl) (fun E => ?_)
  unfold f_X1_trulyTold
  refine r_iconst dX1_trulyTold_0 ki_0 ?_
  refine r_istore_n_x dX1_trulyTold_1 rfl (by decide) rfl ?_
  refine r_iconst dX1_trulyTold_2 ki_0 ?_
  refine r_istore_w_x dX1_trulyTold_3 (by decide) rfl ?_
  refine r_sub [2, 3, 4, 1, 0] (lv' := [(0, .ref p0), (1, .int p1), (2, .int p2), (3, .int (0 : Int32)), (4, .int (0 : Int32))]) rfl ?_
  exact w_X1_trulyTold_5 p0 hp0 FU p1 p2 (0 : Int32) (0 : Int32) d
theorem cf_X1_trulyTold : CFv mi_X1_trulyTold 2 := ⟨iw_X1_trulyTold, vw_X1_trulyTold, nw_X1, cw_X1_trulyTold, by unfold plainF; decide +kernel⟩
abbrev si_X2_readTruth : SI := (cX2_readTruth, RX2, 6, (some .boolean), 3, 65)
def f_X2_readTruth_46 (v1 : Int32) (v2 : Int32) (v4 : Int32) (t0 : Int32) (d : DD) : Option (Int32 × DD) :=
  if t0 = (-1 : Int32) then
  some ((0 : Int32), d)
  else
  (f_X1_firstOf v2 v4 d).bind fun q4 =>
    (f_X9_put 54 v1 (q4.1 + t0) q4.2).bind fun q5 =>
    some ((1 : Int32), q5.2)
set_option maxRecDepth 100000 in
set_option maxHeartbeats 4000000 in
theorem w_X2_readTruth_46 {E : XE} (v1 : Int32) (v2 : Int32) (v4 : Int32) (t0 : Int32) (d : DD) : AW E si_X2_readTruth 0 0 (QM E wrI) (f_X2_readTruth_46 v1 v2 v4 t0 d) 46 [(0, .ref 49), (1, .int v1), (2, .int v2), (4, .int v4)] [.int t0] d := by
  unfold f_X2_readTruth_46
  refine r_istore_w_x dX2_readTruth_46 (by decide) rfl ?_
  refine r_iload_w_0 dX2_readTruth_48 ?_
  refine r_iconst dX2_readTruth_50 ki_m1 ?_
  refine r_icmp_ne (tgt := 56) dX2_readTruth_51 (by decide) ?_ ?_
  · refine r_aload_n_1 dX2_readTruth_56 rfl ?_
    refine r_getr (t := 50) (cc := 2) 1 rfl rfl uX2 (by decide) rfl fw_X2_12 rfl dX2_readTruth_57 ?_
    refine r_getr (t := 54) (cc := 1) 5 rfl rfl uX1 (by decide) rfl fw_X2_104 rfl dX2_readTruth_60 ?_
    refine r_iload_n_2 dX2_readTruth_63 rfl ?_
    refine r_iload_n_3 dX2_readTruth_64 rfl ?_
    refine r_iload_w_4 dX2_readTruth_65 ?_
    refine r_callSI [.int v1, .ref 54] (am_X1_firstOf v2 v4 d) cf_X1_firstOf mw_X2_113 (by decide) dX2_readTruth_67 rfl (Nat.le_of_ble_eq_true rfl) ⟨rfl, rfl⟩ (fun q4 => ?_)
    refine r_iload_w_0 dX2_readTruth_70 ?_
    refine r_iadd dX2_readTruth_72 ?_
    refine r_callSNU [] (am_X9_put 54 rfl v1 (q4.1 + t0) q4.2) cf_X9_put wn_X2_97 (by decide) dX2_readTruth_73 rfl (Nat.le_of_ble_eq_true rfl) ⟨rfl, rfl⟩ (fun q5 => ?_)
    refine r_iconst dX2_readTruth_76 ki_1 ?_
    exact r_zreturn dX2_readTruth_77 rfl rfl
  · refine r_iconst dX2_readTruth_54 ki_0 ?_
    exact r_zreturn dX2_readTruth_55 rfl rfl
def f_X2_readTruth (p1 : Int32) (p2 : Int32) (p3 : Int32) (d : DD) : Option (Int32 × DD) :=
  bd (u1 d 44 1 ((d.1 44 1) + (1 : Int32))) fun d1 =>
  (f_X0_readNumber p2 p3 d1).bind fun q2 =>
  if q2.1 = (-1 : Int32) then
  f_X2_readTruth_46 p1 p2 q2.1 (-1 : Int32) q2.2
  else
  (f_X0_readNumber (0 : Int32) (q2.1 - (1 : Int32)) q2.2).bind fun q3 =>
    f_X2_readTruth_46 p1 p2 q2.1 q3.1 q3.2
set_option maxRecDepth 100000 in
set_option maxHeartbeats 4000000 in
theorem am_X2_readTruth (p1 : Int32) (p2 : Int32) (p3 : Int32) (d : DD) : AM wrI mi_X2_readTruth 3 65 [.ref 49, .int p1, .int p2, .int p3] d (f_X2_readTruth p1 p2 p3 d) := by
  refine AM_intro (si := si_X2_readTruth) (lv := [(0, .ref 49), (1, .int p1), (2, .int p2), (3, .int p3)]) rfl (by decide +kernel) rfl (Nat.le_of_ble_eq_true rfl) (fun E => ?_)
  unfold f_X2_readTruth
  refine r_aload_n_0 dX2_readTruth_0 rfl ?_
  refine r_getr (t := 44) (cc := 2) 0 rfl rfl uX2 (by decide) rfl fw_X2_22 rfl dX2_readTruth_1 ?_
  refine r_dupa dX2_readTruth_4 ?_
  refine r_geti (cc := 0) 1 rfl rfl uX0 (by decide) rfl fw_X2_71 dX2_readTruth_5 ?_
  refine r_iconst dX2_readTruth_8 ki_1 ?_
  refine r_iadd dX2_readTruth_9 ?_
  refine r_puti (cc := 0) 1 tyX0 tyX0_ok nmX0 rfl (by decide +kernel) rfl rfl uX0 (by decide) rfl fw_X2_71 dX2_readTruth_10 ?_
  refine r_bd (fun d1 => ?_)
  refine r_aload_n_0 dX2_readTruth_13 rfl ?_
  refine r_getr (t := 44) (cc := 2) 0 rfl rfl uX2 (by decide) rfl fw_X2_22 rfl dX2_readTruth_14 ?_
  refine r_iload_n_2 dX2_readTruth_17 rfl ?_
  refine r_iload_n_3 dX2_readTruth_18 rfl ?_
  refine r_callVI (cc := 0) [] (am_X0_readNumber p2 p3 d1) rfl rfl cf_X0_readNumber mw_X2_82 (by decide) dX2_readTruth_19 rfl (Nat.le_of_ble_eq_true rfl) ⟨rfl, rfl⟩ (fun q2 => ?_)
  refine r_istore_w_x dX2_readTruth_22 (by decide) rfl ?_
  refine r_iload_w_0 dX2_readTruth_24 ?_
  refine r_iconst dX2_readTruth_26 ki_m1 ?_
  refine r_icmp_ne (tgt := 34) dX2_readTruth_27 (by decide) ?_ ?_
  · refine r_aload_n_1 dX2_readTruth_34 rfl ?_
    refine r_getr (t := 44) (cc := 2) 0 rfl rfl uX2 (by decide) rfl fw_X2_22 rfl dX2_readTruth_35 ?_
    refine r_iconst dX2_readTruth_38 ki_0 ?_
    refine r_iload_w_0 dX2_readTruth_39 ?_
    refine r_iconst dX2_readTruth_41 ki_1 ?_
    refine r_isub dX2_readTruth_42 ?_
    refine r_callVI (cc := 0) [] (am_X0_readNumber (0 : Int32) (q2.1 - (1 : Int32)) q2.2) rfl rfl cf_X0_readNumber mw_X2_82 (by decide) dX2_readTruth_43 rfl (Nat.le_of_ble_eq_true rfl) ⟨rfl, rfl⟩ (fun q3 => ?_)
    refine r_sub [1, 2, 3, 0] (lv' := [(0, .ref 49), (1, .int p1), (2, .int p2), (4, .int q2.1)]) rfl ?_
    exact w_X2_readTruth_46 p1 p2 q2.1 q3.1 q3.2
  · refine r_iconst dX2_readTruth_30 ki_m1 ?_
    refine r_goto (tgt := 46) dX2_readTruth_31 (by decide) ?_
    refine r_sub [1, 2, 3, 0] (lv' := [(0, .ref 49), (1, .int p1), (2, .int p2), (4, .int q2.1)]) rfl ?_
    exact w_X2_readTruth_46 p1 p2 q2.1 (-1 : Int32) q2.2
theorem cf_X2_readTruth : CFv mi_X2_readTruth 3 := ⟨iw_X2_readTruth, vw_X2_readTruth, nw_X2, cw_X2_readTruth, by unfold plainF; decide +kernel⟩
abbrev si_X2_readKindLine : SI := (cX2_readKindLine, RX2, 6, (some .boolean), 4, 90)
def f_X2_readKindLine_123 (v1 : Int64) (v3 : Int32) (t0 : Int32) (d : DD) : Option (Int32 × DD) :=
  if t0 = (-1 : Int32) then
  some ((0 : Int32), d)
  else
  bd (d.1 50 0) fun x7 =>
    (f_X9_putLong 51 x7 v1 d).bind fun q8 =>
    (f_X9_put 52 x7 v3 q8.2).bind fun q9 =>
    (f_X9_put 53 x7 t0 q9.2).bind fun q10 =>
    (f_X9_put 54 x7 (-1 : Int32) q10.2).bind fun q11 =>
    bd (u1 q11.2 50 0 ((q11.2.1 50 0) + (1 : Int32))) fun d12 =>
    (f_X0_sort d12).bind fun q13 =>
    if q13.1 = (6 : Int32) then
    (f_X2_readTruth x7 v3 t0 q13.2).bind fun q14 =>
      if q14.1 = 0 then
      some ((0 : Int32), q14.2)
      else
      some ((1 : Int32), q14.2)
    else
    some ((1 : Int32), q13.2)
set_option maxRecDepth 100000 in
set_option maxHeartbeats 4000000 in
theorem w_X2_readKindLine_123 {E : XE} (v1 : Int64) (v3 : Int32) (t0 : Int32) (d : DD) : AW E si_X2_readKindLine 0 0 (QM E wrI) (f_X2_readKindLine_123 v1 v3 t0 d) 123 [(0, .ref 49), (1, .long v1), (3, .int v3)] [.int t0] d := by
  unfold f_X2_readKindLine_123
  refine r_istore_w_x dX2_readKindLine_123 (by decide) rfl ?_
  refine r_iload_w_0 dX2_readKindLine_125 ?_
  refine r_iconst dX2_readKindLine_127 ki_m1 ?_
  refine r_icmp_ne (tgt := 133) dX2_readKindLine_128 (by decide) ?_ ?_
  · refine r_aload_n_1 dX2_readKindLine_133 rfl ?_
    refine r_getr (t := 50) (cc := 2) 1 rfl rfl uX2 (by decide) rfl fw_X2_12 rfl dX2_readKindLine_134 ?_
    refine r_geti (cc := 1) 0 rfl rfl uX1 (by decide) rfl fw_X2_68 dX2_readKindLine_137 ?_
    refine r_bdI (fun x7 => ?_)
    refine r_istore_w_x dX2_readKindLine_140 (by decide) rfl ?_
    refine r_aload_n_2 dX2_readKindLine_142 rfl ?_
    refine r_getr (t := 50) (cc := 2) 1 rfl rfl uX2 (by decide) rfl fw_X2_12 rfl dX2_readKindLine_143 ?_
    refine r_getr (t := 51) (cc := 1) 2 rfl rfl uX1 (by decide) rfl fw_X2_86 rfl dX2_readKindLine_146 ?_
    refine r_iload_w_0 dX2_readKindLine_149 ?_
    refine r_lload_n_3 dX2_readKindLine_151 rfl ?_
    refine r_callSNU [] (am_X9_putLong 51 rfl x7 v1 d) cf_X9_putLong wn_X2_90 (by decide) dX2_readKindLine_152 rfl (Nat.le_of_ble_eq_true rfl) ⟨rfl, rfl⟩ (fun q8 => ?_)
    refine r_aload_n_2 dX2_readKindLine_155 rfl ?_
    refine r_getr (t := 50) (cc := 2) 1 rfl rfl uX2 (by decide) rfl fw_X2_12 rfl dX2_readKindLine_156 ?_
    refine r_getr (t := 52) (cc := 1) 3 rfl rfl uX1 (by decide) rfl fw_X2_94 rfl dX2_readKindLine_159 ?_
    refine r_iload_w_0 dX2_readKindLine_162 ?_
    refine r_iload_n_4 dX2_readKindLine_164 rfl ?_
    refine r_callSNU [] (am_X9_put 52 rfl x7 v3 q8.2) cf_X9_put wn_X2_97 (by decide) dX2_readKindLine_165 rfl (Nat.le_of_ble_eq_true rfl) ⟨rfl, rfl⟩ (fun q9 => ?_)
    refine r_aload_n_2 dX2_readKindLine_168 rfl ?_
    refine r_getr (t := 50) (cc := 2) 1 rfl rfl uX2 (by decide) rfl fw_X2_12 rfl dX2_readKindLine_169 ?_
    refine r_getr (t := 53) (cc := 1) 4 rfl rfl uX1 (by decide) rfl fw_X2_101 rfl dX2_readKindLine_172 ?_
    refine r_iload_w_0 dX2_readKindLine_175 ?_
    refine r_iload_w_1 dX2_readKindLine_177 ?_
    refine r_callSNU [] (am_X9_put 53 rfl x7 t0 q9.2) cf_X9_put wn_X2_97 (by decide) dX2_readKindLine_179 rfl (Nat.le_of_ble_eq_true rfl) ⟨rfl, rfl⟩ (fun q10 => ?_)
    refine r_aload_n_2 dX2_readKindLine_182 rfl ?_
    refine r_getr (t := 50) (cc := 2) 1 rfl rfl uX2 (by decide) rfl fw_X2_12 rfl dX2_readKindLine_183 ?_
    refine r_getr (t := 54) (cc := 1) 5 rfl rfl uX1 (by decide) rfl fw_X2_104 rfl dX2_readKindLine_186 ?_
    refine r_iload_w_0 dX2_readKindLine_189 ?_
    refine r_iconst dX2_readKindLine_191 ki_m1 ?_
    refine r_callSNU [] (am_X9_put 54 rfl x7 (-1 : Int32) q10.2) cf_X9_put wn_X2_97 (by decide) dX2_readKindLine_192 rfl (Nat.le_of_ble_eq_true rfl) ⟨rfl, rfl⟩ (fun q11 => ?_)
    refine r_aload_n_2 dX2_readKindLine_195 rfl ?_
    refine r_getr (t := 50) (cc := 2) 1 rfl rfl uX2 (by decide) rfl fw_X2_12 rfl dX2_readKindLine_196 ?_
    refine r_dupa dX2_readKindLine_199 ?_
    refine r_geti (cc := 1) 0 rfl rfl uX1 (by decide) rfl fw_X2_68 dX2_readKindLine_200 ?_
    refine r_iconst dX2_readKindLine_203 ki_1 ?_
    refine r_iadd dX2_readKindLine_204 ?_
    refine r_puti (cc := 1) 0 tyX1 tyX1_ok nmX1 rfl (by decide +kernel) rfl rfl uX1 (by decide) rfl fw_X2_68 dX2_readKindLine_205 ?_
    refine r_bd (fun d12 => ?_)
    refine r_aload_n_2 dX2_readKindLine_208 rfl ?_
    refine r_getr (t := 44) (cc := 2) 0 rfl rfl uX2 (by decide) rfl fw_X2_22 rfl dX2_readKindLine_209 ?_
    refine r_callVI (cc := 0) [] (am_X0_sort d12) rfl rfl cf_X0_sort mw_X2_35 (by decide) dX2_readKindLine_212 rfl (Nat.le_of_ble_eq_true rfl) ⟨rfl, rfl⟩ (fun q13 => ?_)
    refine r_bipush dX2_readKindLine_215 kb_6 ?_
    refine r_icmp_ne (tgt := 232) dX2_readKindLine_217 (by decide) ?_ ?_
    · refine r_iconst dX2_readKindLine_232 ki_1 ?_
      refine r_goto (tgt := 237) dX2_readKindLine_233 (by decide) ?_
      exact r_zreturn dX2_readKindLine_237 rfl rfl
    · refine r_aload_n_2 dX2_readKindLine_220 rfl ?_
      refine r_iload_w_0 dX2_readKindLine_221 ?_
      refine r_iload_n_4 dX2_readKindLine_223 rfl ?_
      refine r_iload_w_1 dX2_readKindLine_224 ?_
      refine r_callVI (cc := 2) [] (am_X2_readTruth x7 v3 t0 q13.2) rfl rfl cf_X2_readTruth mw_X2_109 (by decide) dX2_readKindLine_226 rfl (Nat.le_of_ble_eq_true rfl) ⟨rfl, rfl⟩ (fun q14 => ?_)
      refine r_if_eq (tgt := 236) dX2_readKindLine_229 (by decide) ?_ ?_
      · refine r_iconst dX2_readKindLine_236 ki_0 ?_
        exact r_zreturn dX2_readKindLine_237 rfl rfl
      · refine r_iconst dX2_readKindLine_232 ki_1 ?_
        refine r_goto (tgt := 237) dX2_readKindLine_233 (by decide) ?_
        exact r_zreturn dX2_readKindLine_237 rfl rfl
  · refine r_iconst dX2_readKindLine_131 ki_0 ?_
    exact r_zreturn dX2_readKindLine_132 rfl rfl
def f_X2_readKindLine (d : DD) : Option (Int32 × DD) :=
  if 0 < (d.1 50 1) then
  (f_X0_refuse (3 : Int32) d).bind fun q16 =>
    some ((0 : Int32), q16.2)
  else
  if (d.1 50 0) < (3 : Int32) then
    bd (u1 d 44 1 ((d.1 44 1) + (1 : Int32))) fun d1 =>
      (f_X0_peekNewName 50 d1).bind fun q2 =>
      if q2.1 = 0 then
      some ((0 : Int32), q2.2)
      else
      (f_X0_value q2.2).bind fun q3 =>
        bd (u1 q3.2 44 1 ((q3.2.1 44 1) + (1 : Int32))) fun d4 =>
        (f_X0_readNumber (1 : Int32) (8 : Int32) d4).bind fun q5 =>
        if q5.1 = (-1 : Int32) then
        f_X2_readKindLine_123 q3.1 q5.1 (-1 : Int32) q5.2
        else
        (f_X0_readNumber q5.1 (8 : Int32) q5.2).bind fun q6 =>
          f_X2_readKindLine_123 q3.1 q5.1 q6.1 q6.2
    else
    (f_X0_refuse (4 : Int32) d).bind fun q15 =>
      some ((0 : Int32), q15.2)
set_option maxRecDepth 100000 in
set_option maxHeartbeats 4000000 in
theorem am_X2_readKindLine (d : DD) : AM wrI mi_X2_readKindLine 4 90 [.ref 49] d (f_X2_readKindLine d) := by
  refine AM_intro (si := si_X2_readKindLine) (lv := [(0, .ref 49)]) rfl (by decide +kernel) rfl (Nat.le_of_ble_eq_true rfl) (fun E => ?_)
  unfold f_X2_readKindLine
  refine r_aload_n_0 dX2_readKindLine_0 rfl ?_
  refine r_getr (t := 50) (cc := 2) 1 rfl rfl uX2 (by decide) rfl fw_X2_12 rfl dX2_readKindLine_1 ?_
  refine r_geti (cc := 1) 1 rfl rfl uX1 (by decide) rfl fw_X2_64 dX2_readKindLine_4 ?_
  refine r_if_le (tgt := 21) dX2_readKindLine_7 (by decide) ?_ ?_
  · refine r_aload_n_0 dX2_readKindLine_21 rfl ?_
    refine r_getr (t := 50) (cc := 2) 1 rfl rfl uX2 (by decide) rfl fw_X2_12 rfl dX2_readKindLine_22 ?_
    refine r_geti (cc := 1) 0 rfl rfl uX1 (by decide) rfl fw_X2_68 dX2_readKindLine_25 ?_
    refine r_iconst dX2_readKindLine_28 ki_3 ?_
    refine r_icmp_lt (tgt := 43) dX2_readKindLine_29 (by decide) ?_ ?_
    · refine r_aload_n_0 dX2_readKindLine_43 rfl ?_
      refine r_getr (t := 44) (cc := 2) 0 rfl rfl uX2 (by decide) rfl fw_X2_22 rfl dX2_readKindLine_44 ?_
      refine r_dupa dX2_readKindLine_47 ?_
      refine r_geti (cc := 0) 1 rfl rfl uX0 (by decide) rfl fw_X2_71 dX2_readKindLine_48 ?_
      refine r_iconst dX2_readKindLine_51 ki_1 ?_
      refine r_iadd dX2_readKindLine_52 ?_
      refine r_puti (cc := 0) 1 tyX0 tyX0_ok nmX0 rfl (by decide +kernel) rfl rfl uX0 (by decide) rfl fw_X2_71 dX2_readKindLine_53 ?_
      refine r_bd (fun d1 => ?_)
      refine r_aload_n_0 dX2_readKindLine_56 rfl ?_
      refine r_getr (t := 44) (cc := 2) 0 rfl rfl uX2 (by decide) rfl fw_X2_22 rfl dX2_readKindLine_57 ?_
      refine r_aload_n_0 dX2_readKindLine_60 rfl ?_
      refine r_getr (t := 50) (cc := 2) 1 rfl rfl uX2 (by decide) rfl fw_X2_12 rfl dX2_readKindLine_61 ?_
      refine r_callVI (cc := 0) [] (am_X0_peekNewName 50 rfl d1) rfl rfl cf_X0_peekNewName mw_X2_74 (by decide) dX2_readKindLine_64 rfl (Nat.le_of_ble_eq_true rfl) ⟨rfl, rfl⟩ (fun q2 => ?_)
      refine r_if_ne (tgt := 72) dX2_readKindLine_67 (by decide) ?_ ?_
      · refine r_aload_n_0 dX2_readKindLine_72 rfl ?_
        refine r_getr (t := 44) (cc := 2) 0 rfl rfl uX2 (by decide) rfl fw_X2_22 rfl dX2_readKindLine_73 ?_
        refine r_callVL (cc := 0) [] (am_X0_value q2.2) rfl rfl cf_X0_value mw_X2_78 (by decide) dX2_readKindLine_76 rfl (Nat.le_of_ble_eq_true rfl) ⟨rfl, rfl⟩ (fun q3 => ?_)
        refine r_lstore_n_x dX2_readKindLine_79 rfl (by decide) rfl ?_
        refine r_aload_n_1 dX2_readKindLine_80 rfl ?_
        refine r_getr (t := 44) (cc := 2) 0 rfl rfl uX2 (by decide) rfl fw_X2_22 rfl dX2_readKindLine_81 ?_
        refine r_dupa dX2_readKindLine_84 ?_
        refine r_geti (cc := 0) 1 rfl rfl uX0 (by decide) rfl fw_X2_71 dX2_readKindLine_85 ?_
        refine r_iconst dX2_readKindLine_88 ki_1 ?_
        refine r_iadd dX2_readKindLine_89 ?_
        refine r_puti (cc := 0) 1 tyX0 tyX0_ok nmX0 rfl (by decide +kernel) rfl rfl uX0 (by decide) rfl fw_X2_71 dX2_readKindLine_90 ?_
        refine r_bd (fun d4 => ?_)
        refine r_aload_n_1 dX2_readKindLine_93 rfl ?_
        refine r_getr (t := 44) (cc := 2) 0 rfl rfl uX2 (by decide) rfl fw_X2_22 rfl dX2_readKindLine_94 ?_
        refine r_iconst dX2_readKindLine_97 ki_1 ?_
        refine r_bipush dX2_readKindLine_98 kb_8 ?_
        refine r_callVI (cc := 0) [] (am_X0_readNumber (1 : Int32) (8 : Int32) d4) rfl rfl cf_X0_readNumber mw_X2_82 (by decide) dX2_readKindLine_100 rfl (Nat.le_of_ble_eq_true rfl) ⟨rfl, rfl⟩ (fun q5 => ?_)
        refine r_istore_n_x dX2_readKindLine_103 rfl (by decide) rfl ?_
        refine r_iload_n_0 dX2_readKindLine_104 rfl ?_
        refine r_iconst dX2_readKindLine_105 ki_m1 ?_
        refine r_icmp_ne (tgt := 113) dX2_readKindLine_106 (by decide) ?_ ?_
        · refine r_aload_n_2 dX2_readKindLine_113 rfl ?_
          refine r_getr (t := 44) (cc := 2) 0 rfl rfl uX2 (by decide) rfl fw_X2_22 rfl dX2_readKindLine_114 ?_
          refine r_iload_n_0 dX2_readKindLine_117 rfl ?_
          refine r_bipush dX2_readKindLine_118 kb_8 ?_
          refine r_callVI (cc := 0) [] (am_X0_readNumber q5.1 (8 : Int32) q5.2) rfl rfl cf_X0_readNumber mw_X2_82 (by decide) dX2_readKindLine_120 rfl (Nat.le_of_ble_eq_true rfl) ⟨rfl, rfl⟩ (fun q6 => ?_)
          refine r_sub [2, 1, 0] (lv' := [(0, .ref 49), (1, .long q3.1), (3, .int q5.1)]) rfl ?_
          exact w_X2_readKindLine_123 q3.1 q5.1 q6.1 q6.2
        · refine r_iconst dX2_readKindLine_109 ki_m1 ?_
          refine r_goto (tgt := 123) dX2_readKindLine_110 (by decide) ?_
          refine r_sub [2, 1, 0] (lv' := [(0, .ref 49), (1, .long q3.1), (3, .int q5.1)]) rfl ?_
          exact w_X2_readKindLine_123 q3.1 q5.1 (-1 : Int32) q5.2
      · refine r_iconst dX2_readKindLine_70 ki_0 ?_
        exact r_zreturn dX2_readKindLine_71 rfl rfl
    · refine r_aload_n_0 dX2_readKindLine_32 rfl ?_
      refine r_getr (t := 44) (cc := 2) 0 rfl rfl uX2 (by decide) rfl fw_X2_22 rfl dX2_readKindLine_33 ?_
      refine r_iconst dX2_readKindLine_36 ki_4 ?_
      refine r_callVI (cc := 0) [] (am_X0_refuse (4 : Int32) d) rfl rfl cf_X0_refuse mw_X2_57 (by decide) dX2_readKindLine_37 rfl (Nat.le_of_ble_eq_true rfl) ⟨rfl, rfl⟩ (fun q15 => ?_)
      refine r_popi dX2_readKindLine_40 ?_
      refine r_iconst dX2_readKindLine_41 ki_0 ?_
      exact r_zreturn dX2_readKindLine_42 rfl rfl
  · refine r_aload_n_0 dX2_readKindLine_10 rfl ?_
    refine r_getr (t := 44) (cc := 2) 0 rfl rfl uX2 (by decide) rfl fw_X2_22 rfl dX2_readKindLine_11 ?_
    refine r_iconst dX2_readKindLine_14 ki_3 ?_
    refine r_callVI (cc := 0) [] (am_X0_refuse (3 : Int32) d) rfl rfl cf_X0_refuse mw_X2_57 (by decide) dX2_readKindLine_15 rfl (Nat.le_of_ble_eq_true rfl) ⟨rfl, rfl⟩ (fun q16 => ?_)
    refine r_popi dX2_readKindLine_18 ?_
    refine r_iconst dX2_readKindLine_19 ki_0 ?_
    exact r_zreturn dX2_readKindLine_20 rfl rfl
theorem cf_X2_readKindLine : CFv mi_X2_readKindLine 0 := ⟨iw_X2_readKindLine, vw_X2_readKindLine, nw_X2, cw_X2_readKindLine, by unfold plainF; decide +kernel⟩
abbrev si_X2_readWay : SI := (cX2_readWay, RX2, 5, (some .int), 3, 66)
def f_X2_readWay_109 (v1 : Int32) (v3 : Int32) (d : DD) : Option (Int32 × DD) :=
  if ((iushr v1 v3) &&& (1 : Int32)) = (1 : Int32) then
  (f_X0_refuse (3 : Int32) d).bind fun q6 =>
    some (q6.1, q6.2)
  else
  bd (u1 d 44 1 ((d.1 44 1) + (1 : Int32))) fun d5 =>
    some (v3, d5)
set_option maxRecDepth 100000 in
set_option maxHeartbeats 4000000 in
theorem w_X2_readWay_109 {E : XE} (v1 : Int32) (v3 : Int32) (d : DD) : AW E si_X2_readWay 0 0 (QM E wrI) (f_X2_readWay_109 v1 v3 d) 109 [(0, .ref 49), (1, .int v1), (3, .int v3)] [] d := by
  unfold f_X2_readWay_109
  refine r_iload_n_1 dX2_readWay_109 rfl ?_
  refine r_iload_n_2 dX2_readWay_110 rfl ?_
  refine r_iushr dX2_readWay_111 ?_
  refine r_iconst dX2_readWay_112 ki_1 ?_
  refine r_iand dX2_readWay_113 ?_
  refine r_iconst dX2_readWay_114 ki_1 ?_
  refine r_icmp_ne (tgt := 127) dX2_readWay_115 (by decide) ?_ ?_
  · refine r_aload_n_0 dX2_readWay_127 rfl ?_
    refine r_getr (t := 44) (cc := 2) 0 rfl rfl uX2 (by decide) rfl fw_X2_22 rfl dX2_readWay_128 ?_
    refine r_dupa dX2_readWay_131 ?_
    refine r_geti (cc := 0) 1 rfl rfl uX0 (by decide) rfl fw_X2_71 dX2_readWay_132 ?_
    refine r_iconst dX2_readWay_135 ki_1 ?_
    refine r_iadd dX2_readWay_136 ?_
    refine r_puti (cc := 0) 1 tyX0 tyX0_ok nmX0 rfl (by decide +kernel) rfl rfl uX0 (by decide) rfl fw_X2_71 dX2_readWay_137 ?_
    refine r_bd (fun d5 => ?_)
    refine r_iload_n_2 dX2_readWay_140 rfl ?_
    exact r_ireturn dX2_readWay_141 rfl
  · refine r_aload_n_0 dX2_readWay_118 rfl ?_
    refine r_getr (t := 44) (cc := 2) 0 rfl rfl uX2 (by decide) rfl fw_X2_22 rfl dX2_readWay_119 ?_
    refine r_iconst dX2_readWay_122 ki_3 ?_
    refine r_callVI (cc := 0) [] (am_X0_refuse (3 : Int32) d) rfl rfl cf_X0_refuse mw_X2_57 (by decide) dX2_readWay_123 rfl (Nat.le_of_ble_eq_true rfl) ⟨rfl, rfl⟩ (fun q6 => ?_)
    exact r_ireturn dX2_readWay_126 rfl
def f_X2_readWay_83 (v1 : Int32) (t0 : Int32) (t1 : Int32) (d : DD) : Option (Int32 × DD) :=
  bd (t1 + t0) fun x4 =>
  f_X2_readWay_109 v1 x4 d
set_option maxRecDepth 100000 in
set_option maxHeartbeats 4000000 in
theorem w_X2_readWay_83 {E : XE} (v1 : Int32) (t0 : Int32) (t1 : Int32) (d : DD) : AW E si_X2_readWay 0 0 (QM E wrI) (f_X2_readWay_83 v1 t0 t1 d) 83 [(0, .ref 49), (1, .int v1)] [.int t0, .int t1] d := by
  unfold f_X2_readWay_83
  refine r_iadd dX2_readWay_83 ?_
  refine r_bdI (fun x4 => ?_)
  refine r_istore_n_x dX2_readWay_84 rfl (by decide) rfl ?_
  refine r_goto (tgt := 109) dX2_readWay_85 (by decide) ?_
  refine r_sub [1, 2, 0] (lv' := [(0, .ref 49), (1, .int v1), (3, .int x4)]) rfl ?_
  exact w_X2_readWay_109 v1 x4 d
def f_X2_readWay_32 (v1 : Int32) (v2 : Int32) (d : DD) : Option (Int32 × DD) :=
  bd (u1 d 44 1 ((d.1 44 1) + (1 : Int32))) fun d2 =>
  (f_X0_peekKind 50 d2).bind fun q3 =>
  if q3.1 = (-1 : Int32) then
  some ((-1 : Int32), q3.2)
  else
  if v2 = (11 : Int32) then
    f_X2_readWay_83 v1 (1 : Int32) ((2 : Int32) + ((2 : Int32) * q3.1)) q3.2
    else
    f_X2_readWay_83 v1 (0 : Int32) ((2 : Int32) + ((2 : Int32) * q3.1)) q3.2
set_option maxRecDepth 100000 in
set_option maxHeartbeats 4000000 in
theorem w_X2_readWay_32 {E : XE} (v1 : Int32) (v2 : Int32) (d : DD) : AW E si_X2_readWay 0 0 (QM E wrI) (f_X2_readWay_32 v1 v2 d) 32 [(0, .ref 49), (1, .int v1), (2, .int v2)] [] d := by
  unfold f_X2_readWay_32
  refine r_aload_n_0 dX2_readWay_32 rfl ?_
  refine r_getr (t := 44) (cc := 2) 0 rfl rfl uX2 (by decide) rfl fw_X2_22 rfl dX2_readWay_33 ?_
  refine r_dupa dX2_readWay_36 ?_
  refine r_geti (cc := 0) 1 rfl rfl uX0 (by decide) rfl fw_X2_71 dX2_readWay_37 ?_
  refine r_iconst dX2_readWay_40 ki_1 ?_
  refine r_iadd dX2_readWay_41 ?_
  refine r_puti (cc := 0) 1 tyX0 tyX0_ok nmX0 rfl (by decide +kernel) rfl rfl uX0 (by decide) rfl fw_X2_71 dX2_readWay_42 ?_
  refine r_bd (fun d2 => ?_)
  refine r_aload_n_0 dX2_readWay_45 rfl ?_
  refine r_getr (t := 44) (cc := 2) 0 rfl rfl uX2 (by decide) rfl fw_X2_22 rfl dX2_readWay_46 ?_
  refine r_aload_n_0 dX2_readWay_49 rfl ?_
  refine r_getr (t := 50) (cc := 2) 1 rfl rfl uX2 (by decide) rfl fw_X2_12 rfl dX2_readWay_50 ?_
  refine r_callVI (cc := 0) [] (am_X0_peekKind 50 rfl d2) rfl rfl cf_X0_peekKind mw_X2_125 (by decide) dX2_readWay_53 rfl (Nat.le_of_ble_eq_true rfl) ⟨rfl, rfl⟩ (fun q3 => ?_)
  refine r_istore_w_x dX2_readWay_56 (by decide) rfl ?_
  refine r_iload_w_0 dX2_readWay_58 ?_
  refine r_iconst dX2_readWay_60 ki_m1 ?_
  refine r_icmp_ne (tgt := 66) dX2_readWay_61 (by decide) ?_ ?_
  · refine r_iconst dX2_readWay_66 ki_2 ?_
    refine r_iconst dX2_readWay_67 ki_2 ?_
    refine r_iload_w_0 dX2_readWay_68 ?_
    refine r_imul dX2_readWay_70 ?_
    refine r_iadd dX2_readWay_71 ?_
    refine r_iload_n_3 dX2_readWay_72 rfl ?_
    refine r_bipush dX2_readWay_73 kb_11 ?_
    refine r_icmp_ne (tgt := 82) dX2_readWay_75 (by decide) ?_ ?_
    · refine r_iconst dX2_readWay_82 ki_0 ?_
      refine r_sub [1, 2] (lv' := [(0, .ref 49), (1, .int v1)]) rfl ?_
      exact w_X2_readWay_83 v1 (0 : Int32) ((2 : Int32) + ((2 : Int32) * q3.1)) q3.2
    · refine r_iconst dX2_readWay_78 ki_1 ?_
      refine r_goto (tgt := 83) dX2_readWay_79 (by decide) ?_
      refine r_sub [1, 2] (lv' := [(0, .ref 49), (1, .int v1)]) rfl ?_
      exact w_X2_readWay_83 v1 (1 : Int32) ((2 : Int32) + ((2 : Int32) * q3.1)) q3.2
  · refine r_iconst dX2_readWay_64 ki_m1 ?_
    exact r_ireturn dX2_readWay_65 rfl
def f_X2_readWay_19 (v1 : Int32) (v2 : Int32) (t0 : Int32) (d : DD) : Option (Int32 × DD) :=
  if v2 = (10 : Int32) then
  f_X2_readWay_32 v1 v2 d
  else
  if v2 = (11 : Int32) then
    f_X2_readWay_32 v1 v2 d
    else
    if v2 = (8 : Int32) then
      f_X2_readWay_109 v1 t0 d
      else
      if v2 = (9 : Int32) then
        f_X2_readWay_109 v1 t0 d
        else
        (f_X0_refuse (1 : Int32) d).bind fun q7 =>
          some (q7.1, q7.2)
set_option maxRecDepth 100000 in
set_option maxHeartbeats 4000000 in
theorem w_X2_readWay_19 {E : XE} (v1 : Int32) (v2 : Int32) (t0 : Int32) (d : DD) : AW E si_X2_readWay 0 0 (QM E wrI) (f_X2_readWay_19 v1 v2 t0 d) 19 [(0, .ref 49), (1, .int v1), (2, .int v2)] [.int t0] d := by
  unfold f_X2_readWay_19
  refine r_istore_n_x dX2_readWay_19 rfl (by decide) rfl ?_
  refine r_iload_n_3 dX2_readWay_20 rfl ?_
  refine r_bipush dX2_readWay_21 kb_10 ?_
  refine r_icmp_eq (tgt := 32) dX2_readWay_23 (by decide) ?_ ?_
  · refine r_sub [1, 2, 3] (lv' := [(0, .ref 49), (1, .int v1), (2, .int v2)]) rfl ?_
    exact w_X2_readWay_32 v1 v2 d
  · refine r_iload_n_3 dX2_readWay_26 rfl ?_
    refine r_bipush dX2_readWay_27 kb_11 ?_
    refine r_icmp_ne (tgt := 88) dX2_readWay_29 (by decide) ?_ ?_
    · refine r_iload_n_3 dX2_readWay_88 rfl ?_
      refine r_bipush dX2_readWay_89 kb_8 ?_
      refine r_icmp_eq (tgt := 109) dX2_readWay_91 (by decide) ?_ ?_
      · refine r_sub [1, 2, 0] (lv' := [(0, .ref 49), (1, .int v1), (3, .int t0)]) rfl ?_
        exact w_X2_readWay_109 v1 t0 d
      · refine r_iload_n_3 dX2_readWay_94 rfl ?_
        refine r_bipush dX2_readWay_95 kb_9 ?_
        refine r_icmp_eq (tgt := 109) dX2_readWay_97 (by decide) ?_ ?_
        · refine r_sub [1, 2, 0] (lv' := [(0, .ref 49), (1, .int v1), (3, .int t0)]) rfl ?_
          exact w_X2_readWay_109 v1 t0 d
        · refine r_aload_n_1 dX2_readWay_100 rfl ?_
          refine r_getr (t := 44) (cc := 2) 0 rfl rfl uX2 (by decide) rfl fw_X2_22 rfl dX2_readWay_101 ?_
          refine r_iconst dX2_readWay_104 ki_1 ?_
          refine r_callVI (cc := 0) [] (am_X0_refuse (1 : Int32) d) rfl rfl cf_X0_refuse mw_X2_57 (by decide) dX2_readWay_105 rfl (Nat.le_of_ble_eq_true rfl) ⟨rfl, rfl⟩ (fun q7 => ?_)
          exact r_ireturn dX2_readWay_108 rfl
    · refine r_sub [1, 2, 3] (lv' := [(0, .ref 49), (1, .int v1), (2, .int v2)]) rfl ?_
      exact w_X2_readWay_32 v1 v2 d
def f_X2_readWay (p1 : Int32) (d : DD) : Option (Int32 × DD) :=
  (f_X0_sort d).bind fun q1 =>
  if q1.1 = (9 : Int32) then
  f_X2_readWay_19 p1 q1.1 (1 : Int32) q1.2
  else
  f_X2_readWay_19 p1 q1.1 (0 : Int32) q1.2
set_option maxRecDepth 100000 in
set_option maxHeartbeats 4000000 in
theorem am_X2_readWay (p1 : Int32) (d : DD) : AM wrI mi_X2_readWay 3 66 [.ref 49, .int p1] d (f_X2_readWay p1 d) := by
  refine AM_intro (si := si_X2_readWay) (lv := [(0, .ref 49), (1, .int p1)]) rfl (by decide +kernel) rfl (Nat.le_of_ble_eq_true rfl) (fun E => ?_)
  unfold f_X2_readWay
  refine r_aload_n_0 dX2_readWay_0 rfl ?_
  refine r_getr (t := 44) (cc := 2) 0 rfl rfl uX2 (by decide) rfl fw_X2_22 rfl dX2_readWay_1 ?_
  refine r_callVI (cc := 0) [] (am_X0_sort d) rfl rfl cf_X0_sort mw_X2_35 (by decide) dX2_readWay_4 rfl (Nat.le_of_ble_eq_true rfl) ⟨rfl, rfl⟩ (fun q1 => ?_)
  refine r_istore_n_x dX2_readWay_7 rfl (by decide) rfl ?_
  refine r_iload_n_0 dX2_readWay_8 rfl ?_
  refine r_bipush dX2_readWay_9 kb_9 ?_
  refine r_icmp_ne (tgt := 18) dX2_readWay_11 (by decide) ?_ ?_
  · refine r_iconst dX2_readWay_18 ki_0 ?_
    refine r_sub [1, 2, 0] (lv' := [(0, .ref 49), (1, .int p1), (2, .int q1.1)]) rfl ?_
    exact w_X2_readWay_19 p1 q1.1 (0 : Int32) q1.2
  · refine r_iconst dX2_readWay_14 ki_1 ?_
    refine r_goto (tgt := 19) dX2_readWay_15 (by decide) ?_
    refine r_sub [1, 2, 0] (lv' := [(0, .ref 49), (1, .int p1), (2, .int q1.1)]) rfl ?_
    exact w_X2_readWay_19 p1 q1.1 (1 : Int32) q1.2
theorem cf_X2_readWay : CFv mi_X2_readWay 1 := ⟨iw_X2_readWay, vw_X2_readWay, nw_X2, cw_X2_readWay, by unfold plainF; decide +kernel⟩
