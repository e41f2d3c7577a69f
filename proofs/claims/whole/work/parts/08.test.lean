abbrev si_J6_bitCount_0f7a4 : SI := (cJ6_bitCount_0f7a4, RJ6, 1, (some .int), 0, 0)
def f_J6_bitCount_0f7a4 (p0 : Int32) (d : DD) : Option (Int32 × DD) :=
  bd (p0 - ((iushr p0 (1 : Int32)) &&& (1431655765 : Int32))) fun x1 =>
  bd ((x1 &&& (858993459 : Int32)) + ((iushr x1 (2 : Int32)) &&& (858993459 : Int32))) fun x2 =>
  bd ((x2 + (iushr x2 (4 : Int32))) &&& (252645135 : Int32)) fun x3 =>
  bd (x3 + (iushr x3 (8 : Int32))) fun x4 =>
  bd (x4 + (iushr x4 (16 : Int32))) fun x5 =>
  some (x5 &&& (63 : Int32), d)
set_option maxRecDepth 100000 in
set_option maxHeartbeats 4000000 in
theorem am_J6_bitCount_0f7a4 (p0 : Int32) (d : DD) : AM wrI mi_J6_bitCount_0f7a4 0 0 [.int p0] d (f_J6_bitCount_0f7a4 p0 d) := by
  refine AM_intro (si := si_J6_bitCount_0f7a4) (lv := [(0, .int p0)]) rfl (by decide +kernel) rfl (Nat.le_of_ble_eq_true rfl) (fun E => ?_)
  unfold f_J6_bitCount_0f7a4
  refine r_iload_n_0 dJ6_bitCount_0f7a4_0 rfl ?_
  refine r_iload_n_0 dJ6_bitCount_0f7a4_1 rfl ?_
  refine r_iconst dJ6_bitCount_0f7a4_2 ki_1 ?_
  refine r_iushr dJ6_bitCount_0f7a4_3 ?_
  refine r_ldcw dJ6_bitCount_0f7a4_4 kw_J6_265 ?_
  refine r_iand dJ6_bitCount_0f7a4_7 ?_
  refine r_isub dJ6_bitCount_0f7a4_8 ?_
  refine r_bdI (fun x1 => ?_)
  refine r_istore_n_0 dJ6_bitCount_0f7a4_9 rfl (by decide) rfl ?_
  refine r_iload_n_0 dJ6_bitCount_0f7a4_10 rfl ?_
  refine r_ldcw dJ6_bitCount_0f7a4_11 kw_J6_266 ?_
  refine r_iand dJ6_bitCount_0f7a4_14 ?_
  refine r_iload_n_0 dJ6_bitCount_0f7a4_15 rfl ?_
  refine r_iconst dJ6_bitCount_0f7a4_16 ki_2 ?_
  refine r_iushr dJ6_bitCount_0f7a4_17 ?_
  refine r_ldcw dJ6_bitCount_0f7a4_18 kw_J6_266 ?_
  refine r_iand dJ6_bitCount_0f7a4_21 ?_
  refine r_iadd dJ6_bitCount_0f7a4_22 ?_
  refine r_bdI (fun x2 => ?_)
  refine r_istore_n_0 dJ6_bitCount_0f7a4_23 rfl (by decide) rfl ?_
  refine r_iload_n_0 dJ6_bitCount_0f7a4_24 rfl ?_
  refine r_iload_n_0 dJ6_bitCount_0f7a4_25 rfl ?_
  refine r_iconst dJ6_bitCount_0f7a4_26 ki_4 ?_
  refine r_iushr dJ6_bitCount_0f7a4_27 ?_
  refine r_iadd dJ6_bitCount_0f7a4_28 ?_
  refine r_ldcw dJ6_bitCount_0f7a4_29 kw_J6_267 ?_
  refine r_iand dJ6_bitCount_0f7a4_32 ?_
  refine r_bdI (fun x3 => ?_)
  refine r_istore_n_0 dJ6_bitCount_0f7a4_33 rfl (by decide) rfl ?_
  refine r_iload_n_0 dJ6_bitCount_0f7a4_34 rfl ?_
  refine r_iload_n_0 dJ6_bitCount_0f7a4_35 rfl ?_
  refine r_bipush dJ6_bitCount_0f7a4_36 kb_8 ?_
  refine r_iushr dJ6_bitCount_0f7a4_38 ?_
  refine r_iadd dJ6_bitCount_0f7a4_39 ?_
  refine r_bdI (fun x4 => ?_)
  refine r_istore_n_0 dJ6_bitCount_0f7a4_40 rfl (by decide) rfl ?_
  refine r_iload_n_0 dJ6_bitCount_0f7a4_41 rfl ?_
  refine r_iload_n_0 dJ6_bitCount_0f7a4_42 rfl ?_
  refine r_bipush dJ6_bitCount_0f7a4_43 kb_16 ?_
  refine r_iushr dJ6_bitCount_0f7a4_45 ?_
  refine r_iadd dJ6_bitCount_0f7a4_46 ?_
  refine r_bdI (fun x5 => ?_)
  refine r_istore_n_0 dJ6_bitCount_0f7a4_47 rfl (by decide) rfl ?_
  refine r_iload_n_0 dJ6_bitCount_0f7a4_48 rfl ?_
  refine r_bipush dJ6_bitCount_0f7a4_49 kb_63 ?_
  refine r_iand dJ6_bitCount_0f7a4_51 ?_
  exact r_ireturn dJ6_bitCount_0f7a4_52 rfl
theorem cf_J6_bitCount_0f7a4 : CFs mi_J6_bitCount_0f7a4 1 := ⟨sw_J6_bitCount_0f7a4, nw_J6, cw_J6_bitCount_0f7a4, by unfold plainF; decide +kernel⟩
abbrev si_J7_fill_53178 : SI := (cJ7_fill_53178, RJ7, 4, none, 0, 0)
def f_J7_fill_53178_5B (p0 : Nat) (k5 : Int32 → Int32 → Int32 → DD → Option (Unit × DD)) (v1 : Int32) (v2 : Int32) (v3 : Int32) (d : DD) : Option (Unit × DD) :=
  if v2 < v3 then
  if ixb v2 (ln p0) then
    bd (u1 d p0 v2.toNatClampNeg v1) fun d2 =>
    k5 v1 (v2 + (1 : Int32)) v3 d2
    else none
  else
  some ((), d)
def f_J7_fill_53178_5 (p0 : Nat) : Nat → Int32 → Int32 → Int32 → DD → Option (Unit × DD)
  | 0, _, _, _, _ => none
  | n + 1, v1, v2, v3, d => f_J7_fill_53178_5B p0 (f_J7_fill_53178_5 p0 n) v1 v2 v3 d
set_option maxRecDepth 100000 in
set_option maxHeartbeats 4000000 in
theorem w_J7_fill_53178_5B {E : XE} (p0 : Nat) (hp0 : kd p0 = 0) (k5 : Int32 → Int32 → Int32 → DD → Option (Unit × DD)) (hk5 : ∀ (v1 : Int32) (v2 : Int32) (v3 : Int32) (d : DD), AW E si_J7_fill_53178 0 0 (QM E wrU) (k5 v1 v2 v3 d) 5 [(0, .ref p0), (1, .int v1), (2, .int v2), (3, .int v3)] [] d) (v1 : Int32) (v2 : Int32) (v3 : Int32) (d : DD) : AW E si_J7_fill_53178 0 0 (QM E wrU) (f_J7_fill_53178_5B p0 k5 v1 v2 v3 d) 5 [(0, .ref p0), (1, .int v1), (2, .int v2), (3, .int v3)] [] d := by
  unfold f_J7_fill_53178_5B
  refine r_iload_n_2 dJ7_fill_53178_5 rfl ?_
  refine r_iload_n_3 dJ7_fill_53178_6 rfl ?_
  refine r_icmp_ge (tgt := 20) dJ7_fill_53178_7 (by decide) ?_ ?_
  · exact r_return dJ7_fill_53178_20 rfl
  · refine r_aload_n_0 dJ7_fill_53178_10 rfl ?_
    refine r_iload_n_2 dJ7_fill_53178_11 rfl ?_
    refine r_iload_n_1 dJ7_fill_53178_12 rfl ?_
    refine r_iastore hp0 dJ7_fill_53178_13 ?_
    refine r_bd (fun d2 => ?_)
    refine r_iinc_2 dJ7_fill_53178_14 ki_1 (by decide) rfl ?_
    refine r_goto (tgt := 5) dJ7_fill_53178_17 (by decide) ?_
    exact hk5 v1 (v2 + (1 : Int32)) v3 d2
theorem w_J7_fill_53178_5 {E : XE} (p0 : Nat) (hp0 : kd p0 = 0) (n : Nat) : ∀ (v1 : Int32) (v2 : Int32) (v3 : Int32) (d : DD), AW E si_J7_fill_53178 0 0 (QM E wrU) (f_J7_fill_53178_5 p0 n v1 v2 v3 d) 5 [(0, .ref p0), (1, .int v1), (2, .int v2), (3, .int v3)] [] d := by
  induction n with
  | zero => intros; exact r_none
  | succ n ih => intro v1 v2 v3 d; exact w_J7_fill_53178_5B p0 hp0 (f_J7_fill_53178_5 p0 n) ih v1 v2 v3 d
def f_J7_fill_53178 (p0 : Nat) (p1 : Int32) (d : DD) : Option (Unit × DD) :=
  bd (Int32.ofNat (ln p0)) fun x1 =>
  f_J7_fill_53178_5 p0 FU p1 (0 : Int32) x1 d
set_option maxRecDepth 100000 in
set_option maxHeartbeats 4000000 in
theorem am_J7_fill_53178 (p0 : Nat) (hp0 : kd p0 = 0) (p1 : Int32) (d : DD) : AM wrU mi_J7_fill_53178 0 0 [.ref p0, .int p1] d (f_J7_fill_53178 p0 p1 d) := by
  refine AM_intro (si := si_J7_fill_53178) (lv := [(0, .ref p0), (1, .int p1)]) rfl (by decide +kernel) rfl (Nat.le_of_ble_eq_true rfl) (fun E => ?_)
  unfold f_J7_fill_53178
  refine r_iconst dJ7_fill_53178_0 ki_0 ?_
  refine r_istore_n_x dJ7_fill_53178_1 rfl (by decide) rfl ?_
  refine r_aload_n_1 dJ7_fill_53178_2 rfl ?_
  refine r_aleni hp0 dJ7_fill_53178_3 ?_
  refine r_bdI (fun x1 => ?_)
  refine r_istore_n_x dJ7_fill_53178_4 rfl (by decide) rfl ?_
  refine r_sub [2, 3, 1, 0] (lv' := [(0, .ref p0), (1, .int p1), (2, .int (0 : Int32)), (3, .int x1)]) rfl ?_
  exact w_J7_fill_53178_5 p0 hp0 FU p1 (0 : Int32) x1 d
theorem cf_J7_fill_53178 : CFs mi_J7_fill_53178 2 := ⟨sw_J7_fill_53178, nw_J7, cw_J7_fill_53178, by unfold plainF; decide +kernel⟩
abbrev si_X9_at : SI := (cX9_at, RX9, 2, (some .int), 0, 0)
def f_X9_at (p0 : Nat) (p1 : Int32) (d : DD) : Option (Int32 × DD) :=
  if p1 < 0 then
  some ((0 : Int32), d)
  else
  if p1 < (Int32.ofNat (ln p0)) then
    if ixb p1 (ln p0) then
      some (d.1 p0 p1.toNatClampNeg, d)
      else none
    else
    some ((0 : Int32), d)
set_option maxRecDepth 100000 in
set_option maxHeartbeats 4000000 in
theorem am_X9_at (p0 : Nat) (hp0 : kd p0 = 0) (p1 : Int32) (d : DD) : AM wrI mi_X9_at 0 0 [.ref p0, .int p1] d (f_X9_at p0 p1 d) := by
  refine AM_intro (si := si_X9_at) (lv := [(0, .ref p0), (1, .int p1)]) rfl (by decide +kernel) rfl (Nat.le_of_ble_eq_true rfl) (fun E => ?_)
  unfold f_X9_at
  refine r_aload_n_0 dX9_at_0 rfl ?_
  refine r_ifnull dX9_at_1 ?_
  refine r_iload_n_1 dX9_at_4 rfl ?_
  refine r_if_lt (tgt := 20) dX9_at_5 (by decide) ?_ ?_
  · refine r_iconst dX9_at_20 ki_0 ?_
    exact r_ireturn dX9_at_21 rfl
  · refine r_iload_n_1 dX9_at_8 rfl ?_
    refine r_aload_n_0 dX9_at_9 rfl ?_
    refine r_aleni hp0 dX9_at_10 ?_
    refine r_icmp_ge (tgt := 20) dX9_at_11 (by decide) ?_ ?_
    · refine r_iconst dX9_at_20 ki_0 ?_
      exact r_ireturn dX9_at_21 rfl
    · refine r_aload_n_0 dX9_at_14 rfl ?_
      refine r_iload_n_1 dX9_at_15 rfl ?_
      refine r_iaload hp0 dX9_at_16 ?_
      refine r_goto (tgt := 21) dX9_at_17 (by decide) ?_
      exact r_ireturn dX9_at_21 rfl
theorem cf_X9_at : CFs mi_X9_at 2 := ⟨sw_X9_at, nw_X9, cw_X9_at, by unfold plainF; decide +kernel⟩
abbrev si_X9_put : SI := (cX9_put, RX9, 3, none, 0, 0)
def f_X9_put (p0 : Nat) (p1 : Int32) (p2 : Int32) (d : DD) : Option (Unit × DD) :=
  if p1 < 0 then
  some ((), d)
  else
  if p1 < (Int32.ofNat (ln p0)) then
    if ixb p1 (ln p0) then
      bd (u1 d p0 p1.toNatClampNeg p2) fun d1 =>
      some ((), d1)
      else none
    else
    some ((), d)
set_option maxRecDepth 100000 in
set_option maxHeartbeats 4000000 in
theorem am_X9_put (p0 : Nat) (hp0 : kd p0 = 0) (p1 : Int32) (p2 : Int32) (d : DD) : AM wrU mi_X9_put 0 0 [.ref p0, .int p1, .int p2] d (f_X9_put p0 p1 p2 d) := by
  refine AM_intro (si := si_X9_put) (lv := [(0, .ref p0), (1, .int p1), (2, .int p2)]) rfl (by decide +kernel) rfl (Nat.le_of_ble_eq_true rfl) (fun E => ?_)
  unfold f_X9_put
  refine r_aload_n_0 dX9_put_0 rfl ?_
  refine r_ifnull dX9_put_1 ?_
  refine r_iload_n_1 dX9_put_4 rfl ?_
  refine r_if_lt (tgt := 18) dX9_put_5 (by decide) ?_ ?_
  · exact r_return dX9_put_18 rfl
  · refine r_iload_n_1 dX9_put_8 rfl ?_
    refine r_aload_n_0 dX9_put_9 rfl ?_
    refine r_aleni hp0 dX9_put_10 ?_
    refine r_icmp_ge (tgt := 18) dX9_put_11 (by decide) ?_ ?_
    · exact r_return dX9_put_18 rfl
    · refine r_aload_n_0 dX9_put_14 rfl ?_
      refine r_iload_n_1 dX9_put_15 rfl ?_
      refine r_iload_n_2 dX9_put_16 rfl ?_
      refine r_iastore hp0 dX9_put_17 ?_
      refine r_bd (fun d1 => ?_)
      exact r_return dX9_put_18 rfl
theorem cf_X9_put : CFs mi_X9_put 3 := ⟨sw_X9_put, nw_X9, cw_X9_put, by unfold plainF; decide +kernel⟩
abbrev si_X9_putLong : SI := (cX9_putLong, RX9, 4, none, 0, 0)
def f_X9_putLong (p0 : Nat) (p1 : Int32) (p2 : Int64) (d : DD) : Option (Unit × DD) :=
  if p1 < 0 then
  some ((), d)
  else
  if p1 < (Int32.ofNat (ln p0)) then
    if ixb p1 (ln p0) then
      bd (u2 d p0 p1.toNatClampNeg p2) fun d1 =>
      some ((), d1)
      else none
    else
    some ((), d)
set_option maxRecDepth 100000 in
set_option maxHeartbeats 4000000 in
theorem am_X9_putLong (p0 : Nat) (hp0 : kd p0 = 1) (p1 : Int32) (p2 : Int64) (d : DD) : AM wrU mi_X9_putLong 0 0 [.ref p0, .int p1, .long p2] d (f_X9_putLong p0 p1 p2 d) := by
  refine AM_intro (si := si_X9_putLong) (lv := [(0, .ref p0), (1, .int p1), (2, .long p2)]) rfl (by decide +kernel) rfl (Nat.le_of_ble_eq_true rfl) (fun E => ?_)
  unfold f_X9_putLong
  refine r_aload_n_0 dX9_putLong_0 rfl ?_
  refine r_ifnull dX9_putLong_1 ?_
  refine r_iload_n_1 dX9_putLong_4 rfl ?_
  refine r_if_lt (tgt := 18) dX9_putLong_5 (by decide) ?_ ?_
  · exact r_return dX9_putLong_18 rfl
  · refine r_iload_n_1 dX9_putLong_8 rfl ?_
    refine r_aload_n_0 dX9_putLong_9 rfl ?_
    refine r_alenl hp0 dX9_putLong_10 ?_
    refine r_icmp_ge (tgt := 18) dX9_putLong_11 (by decide) ?_ ?_
    · exact r_return dX9_putLong_18 rfl
    · refine r_aload_n_0 dX9_putLong_14 rfl ?_
      refine r_iload_n_1 dX9_putLong_15 rfl ?_
      refine r_lload_n_2 dX9_putLong_16 rfl ?_
      refine r_lastore hp0 dX9_putLong_17 ?_
      refine r_bd (fun d1 => ?_)
      exact r_return dX9_putLong_18 rfl
theorem cf_X9_putLong : CFs mi_X9_putLong 3 := ⟨sw_X9_putLong, nw_X9, cw_X9_putLong, by unfold plainF; decide +kernel⟩
abbrev si_X9_longAt : SI := (cX9_longAt, RX9, 2, (some .long), 0, 0)
def f_X9_longAt (p0 : Nat) (p1 : Int32) (d : DD) : Option (Int64 × DD) :=
  if p1 < 0 then
  some ((0 : Int64), d)
  else
  if p1 < (Int32.ofNat (ln p0)) then
    if ixb p1 (ln p0) then
      some (d.2 p0 p1.toNatClampNeg, d)
      else none
    else
    some ((0 : Int64), d)
set_option maxRecDepth 100000 in
set_option maxHeartbeats 4000000 in
theorem am_X9_longAt (p0 : Nat) (hp0 : kd p0 = 1) (p1 : Int32) (d : DD) : AM wrL mi_X9_longAt 0 0 [.ref p0, .int p1] d (f_X9_longAt p0 p1 d) := by
  refine AM_intro (si := si_X9_longAt) (lv := [(0, .ref p0), (1, .int p1)]) rfl (by decide +kernel) rfl (Nat.le_of_ble_eq_true rfl) (fun E => ?_)
  unfold f_X9_longAt
  refine r_aload_n_0 dX9_longAt_0 rfl ?_
  refine r_ifnull dX9_longAt_1 ?_
  refine r_iload_n_1 dX9_longAt_4 rfl ?_
  refine r_if_lt (tgt := 20) dX9_longAt_5 (by decide) ?_ ?_
  · refine r_lconst dX9_longAt_20 kl_0 ?_
    exact r_lreturn dX9_longAt_21 rfl
  · refine r_iload_n_1 dX9_longAt_8 rfl ?_
    refine r_aload_n_0 dX9_longAt_9 rfl ?_
    refine r_alenl hp0 dX9_longAt_10 ?_
    refine r_icmp_ge (tgt := 20) dX9_longAt_11 (by decide) ?_ ?_
    · refine r_lconst dX9_longAt_20 kl_0 ?_
      exact r_lreturn dX9_longAt_21 rfl
    · refine r_aload_n_0 dX9_longAt_14 rfl ?_
      refine r_iload_n_1 dX9_longAt_15 rfl ?_
      refine r_laload hp0 dX9_longAt_16 ?_
      refine r_goto (tgt := 21) dX9_longAt_17 (by decide) ?_
      exact r_lreturn dX9_longAt_21 rfl
theorem cf_X9_longAt : CFs mi_X9_longAt 2 := ⟨sw_X9_longAt, nw_X9, cw_X9_longAt, by unfold plainF; decide +kernel⟩
abbrev si_X9_copyLongs : SI := (cX9_copyLongs, RX9, 3, none, 0, 0)
def f_X9_copyLongs_11B (p0 : Nat) (p1 : Nat) (k11 : Int32 → DD → Option (Unit × DD)) (v2 : Int32) (d : DD) : Option (Unit × DD) :=
  if v2 < (Int32.ofNat (ln p0)) then
  if v2 < (Int32.ofNat (ln p1)) then
    if ixb v2 (ln p0) then
      if ixb v2 (ln p1) then
        bd (u2 d p1 v2.toNatClampNeg (d.2 p0 v2.toNatClampNeg)) fun d1 =>
        k11 (v2 + (1 : Int32)) d1
        else none
      else none
    else
    some ((), d)
  else
  some ((), d)
def f_X9_copyLongs_11 (p0 : Nat) (p1 : Nat) : Nat → Int32 → DD → Option (Unit × DD)
  | 0, _, _ => none
  | n + 1, v2, d => f_X9_copyLongs_11B p0 p1 (f_X9_copyLongs_11 p0 p1 n) v2 d
set_option maxRecDepth 100000 in
set_option maxHeartbeats 4000000 in
theorem w_X9_copyLongs_11B {E : XE} (p0 : Nat) (hp0 : kd p0 = 1) (p1 : Nat) (hp1 : kd p1 = 1) (k11 : Int32 → DD → Option (Unit × DD)) (hk11 : ∀ (v2 : Int32) (d : DD), AW E si_X9_copyLongs 0 0 (QM E wrU) (k11 v2 d) 11 [(0, .ref p0), (1, .ref p1), (2, .int v2)] [] d) (v2 : Int32) (d : DD) : AW E si_X9_copyLongs 0 0 (QM E wrU) (f_X9_copyLongs_11B p0 p1 k11 v2 d) 11 [(0, .ref p0), (1, .ref p1), (2, .int v2)] [] d := by
  unfold f_X9_copyLongs_11B
  refine r_iload_n_2 dX9_copyLongs_11 rfl ?_
  refine r_aload_n_0 dX9_copyLongs_12 rfl ?_
  refine r_alenl hp0 dX9_copyLongs_13 ?_
  refine r_icmp_ge (tgt := 35) dX9_copyLongs_14 (by decide) ?_ ?_
  · exact r_return dX9_copyLongs_35 rfl
  · refine r_iload_n_2 dX9_copyLongs_17 rfl ?_
    refine r_aload_n_1 dX9_copyLongs_18 rfl ?_
    refine r_alenl hp1 dX9_copyLongs_19 ?_
    refine r_icmp_ge (tgt := 35) dX9_copyLongs_20 (by decide) ?_ ?_
    · exact r_return dX9_copyLongs_35 rfl
    · refine r_aload_n_1 dX9_copyLongs_23 rfl ?_
      refine r_iload_n_2 dX9_copyLongs_24 rfl ?_
      refine r_aload_n_0 dX9_copyLongs_25 rfl ?_
      refine r_iload_n_2 dX9_copyLongs_26 rfl ?_
      refine r_laload hp0 dX9_copyLongs_27 ?_
      refine r_lastore hp1 dX9_copyLongs_28 ?_
      refine r_bd (fun d1 => ?_)
      refine r_iinc_2 dX9_copyLongs_29 ki_1 (by decide) rfl ?_
      refine r_goto (tgt := 11) dX9_copyLongs_32 (by decide) ?_
      exact hk11 (v2 + (1 : Int32)) d1
theorem w_X9_copyLongs_11 {E : XE} (p0 : Nat) (hp0 : kd p0 = 1) (p1 : Nat) (hp1 : kd p1 = 1) (n : Nat) : ∀ (v2 : Int32) (d : DD), AW E si_X9_copyLongs 0 0 (QM E wrU) (f_X9_copyLongs_11 p0 p1 n v2 d) 11 [(0, .ref p0), (1, .ref p1), (2, .int v2)] [] d := by
  induction n with
  | zero => intros; exact r_none
  | succ n ih => intro v2 d; exact w_X9_copyLongs_11B p0 hp0 p1 hp1 (f_X9_copyLongs_11 p0 p1 n) ih v2 d
def f_X9_copyLongs (p0 : Nat) (p1 : Nat) (d : DD) : Option (Unit × DD) :=
  f_X9_copyLongs_11 p0 p1 FU (0 : Int32) d
set_option maxRecDepth 100000 in
set_option maxHeartbeats 4000000 in
theorem am_X9_copyLongs (p0 : Nat) (hp0 : kd p0 = 1) (p1 : Nat) (hp1 : kd p1 = 1) (d : DD) : AM wrU mi_X9_copyLongs 0 0 [.ref p0, .ref p1] d (f_X9_copyLongs p0 p1 d) := by
  refine AM_intro (si := si_X9_copyLongs) (lv := [(0, .ref p0), (1, .ref p1)]) rfl (by decide +kernel) rfl (Nat.le_of_ble_eq_true rfl) (fun E => ?_)
  unfold f_X9_copyLongs
  refine r_aload_n_0 dX9_copyLongs_0 rfl ?_
  refine r_ifnull dX9_copyLongs_1 ?_
  refine r_aload_n_1 dX9_copyLongs_4 rfl ?_
  refine r_ifnonnull (tgt := 9) dX9_copyLongs_5 (by decide) ?_
  refine r_iconst dX9_copyLongs_9 ki_0 ?_
  refine r_istore_n_x dX9_copyLongs_10 rfl (by decide) rfl ?_
  refine r_sub [1, 2, 0] (lv' := [(0, .ref p0), (1, .ref p1), (2, .int (0 : Int32))]) rfl ?_
  exact w_X9_copyLongs_11 p0 hp0 p1 hp1 FU (0 : Int32) d
theorem cf_X9_copyLongs : CFs mi_X9_copyLongs 2 := ⟨sw_X9_copyLongs, nw_X9, cw_X9_copyLongs, by unfold plainF; decide +kernel⟩
abbrev si_X9_copyRow : SI := (cX9_copyRow, RX9, 3, none, 0, 0)
def f_X9_copyRow_11B (p0 : Nat) (p1 : Nat) (k11 : Int32 → DD → Option (Unit × DD)) (v2 : Int32) (d : DD) : Option (Unit × DD) :=
  if v2 < (Int32.ofNat (ln p0)) then
  if v2 < (Int32.ofNat (ln p1)) then
    if ixb v2 (ln p0) then
      if ixb v2 (ln p1) then
        bd (u1 d p1 v2.toNatClampNeg (d.1 p0 v2.toNatClampNeg)) fun d1 =>
        k11 (v2 + (1 : Int32)) d1
        else none
      else none
    else
    some ((), d)
  else
  some ((), d)
def f_X9_copyRow_11 (p0 : Nat) (p1 : Nat) : Nat → Int32 → DD → Option (Unit × DD)
  | 0, _, _ => none
  | n + 1, v2, d => f_X9_copyRow_11B p0 p1 (f_X9_copyRow_11 p0 p1 n) v2 d
set_option maxRecDepth 100000 in
set_option maxHeartbeats 4000000 in
theorem w_X9_copyRow_11B {E : XE} (p0 : Nat) (hp0 : kd p0 = 0) (p1 : Nat) (hp1 : kd p1 = 0) (k11 : Int32 → DD → Option (Unit × DD)) (hk11 : ∀ (v2 : Int32) (d : DD), AW E si_X9_copyRow 0 0 (QM E wrU) (k11 v2 d) 11 [(0, .ref p0), (1, .ref p1), (2, .int v2)] [] d) (v2 : Int32) (d : DD) : AW E si_X9_copyRow 0 0 (QM E wrU) (f_X9_copyRow_11B p0 p1 k11 v2 d) 11 [(0, .ref p0), (1, .ref p1), (2, .int v2)] [] d := by
  unfold f_X9_copyRow_11B
  refine r_iload_n_2 dX9_copyRow_11 rfl ?_
  refine r_aload_n_0 dX9_copyRow_12 rfl ?_
  refine r_aleni hp0 dX9_copyRow_13 ?_
  refine r_icmp_ge (tgt := 35) dX9_copyRow_14 (by decide) ?_ ?_
  · exact r_return dX9_copyRow_35 rfl
  · refine r_iload_n_2 dX9_copyRow_17 rfl ?_
    refine r_aload_n_1 dX9_copyRow_18 rfl ?_
    refine r_aleni hp1 dX9_copyRow_19 ?_
    refine r_icmp_ge (tgt := 35) dX9_copyRow_20 (by decide) ?_ ?_
    · exact r_return dX9_copyRow_35 rfl
    · refine r_aload_n_1 dX9_copyRow_23 rfl ?_
      refine r_iload_n_2 dX9_copyRow_24 rfl ?_
      refine r_aload_n_0 dX9_copyRow_25 rfl ?_
      refine r_iload_n_2 dX9_copyRow_26 rfl ?_
      refine r_iaload hp0 dX9_copyRow_27 ?_
      refine r_iastore hp1 dX9_copyRow_28 ?_
      refine r_bd (fun d1 => ?_)
      refine r_iinc_2 dX9_copyRow_29 ki_1 (by decide) rfl ?_
      refine r_goto (tgt := 11) dX9_copyRow_32 (by decide) ?_
      exact hk11 (v2 + (1 : Int32)) d1
theorem w_X9_copyRow_11 {E : XE} (p0 : Nat) (hp0 : kd p0 = 0) (p1 : Nat) (hp1 : kd p1 = 0) (n : Nat) : ∀ (v2 : Int32) (d : DD), AW E si_X9_copyRow 0 0 (QM E wrU) (f_X9_copyRow_11 p0 p1 n v2 d) 11 [(0, .ref p0), (1, .ref p1), (2, .int v2)] [] d := by
  induction n with
  | zero => intros; exact r_none
  | succ n ih => intro v2 d; exact w_X9_copyRow_11B p0 hp0 p1 hp1 (f_X9_copyRow_11 p0 p1 n) ih v2 d
def f_X9_copyRow (p0 : Nat) (p1 : Nat) (d : DD) : Option (Unit × DD) :=
  f_X9_copyRow_11 p0 p1 FU (0 : Int32) d
set_option maxRecDepth 100000 in
set_option maxHeartbeats 4000000 in
theorem am_X9_copyRow (p0 : Nat) (hp0 : kd p0 = 0) (p1 : Nat) (hp1 : kd p1 = 0) (d : DD) : AM wrU mi_X9_copyRow 0 0 [.ref p0, .ref p1] d (f_X9_copyRow p0 p1 d) := by
  refine AM_intro (si := si_X9_copyRow) (lv := [(0, .ref p0), (1, .ref p1)]) rfl (by decide +kernel) rfl (Nat.le_of_ble_eq_true rfl) (fun E => ?_)
  unfold f_X9_copyRow
  refine r_aload_n_0 dX9_copyRow_0 rfl ?_
  refine r_ifnull dX9_copyRow_1 ?_
  refine r_aload_n_1 dX9_copyRow_4 rfl ?_
  refine r_ifnonnull (tgt := 9) dX9_copyRow_5 (by decide) ?_
  refine r_iconst dX9_copyRow_9 ki_0 ?_
  refine r_istore_n_x dX9_copyRow_10 rfl (by decide) rfl ?_
  refine r_sub [1, 2, 0] (lv' := [(0, .ref p0), (1, .ref p1), (2, .int (0 : Int32))]) rfl ?_
  exact w_X9_copyRow_11 p0 hp0 p1 hp1 FU (0 : Int32) d
theorem cf_X9_copyRow : CFs mi_X9_copyRow 2 := ⟨sw_X9_copyRow, nw_X9, cw_X9_copyRow, by unfold plainF; decide +kernel⟩
abbrev si_X5_copyFrom : SI := (cX5_copyFrom, RX5, 2, none, 1, 22)
def f_X5_copyFrom (p0 : Nat) (p1 : Nat) (d : DD) : Option (Unit × DD) :=
  bd (u1 d p0 0 (d.1 p1 0)) fun d1 =>
  (f_X9_copyRow (rf p1 1) (rf p0 1) d1).bind fun q2 =>
  (f_X9_copyRow (rf p1 2) (rf p0 2) q2.2).bind fun q3 =>
  (f_X9_copyRow (rf p1 3) (rf p0 3) q3.2).bind fun q4 =>
  some ((), q4.2)
set_option maxRecDepth 100000 in
set_option maxHeartbeats 4000000 in
theorem am_X5_copyFrom (p0 : Nat) (hp0 : kd p0 = 9) (p1 : Nat) (hp1 : kd p1 = 9) (d : DD) : AM wrU mi_X5_copyFrom 1 22 [.ref p0, .ref p1] d (f_X5_copyFrom p0 p1 d) := by
  refine AM_intro (si := si_X5_copyFrom) (lv := [(0, .ref p0), (1, .ref p1)]) rfl (by decide +kernel) rfl (Nat.le_of_ble_eq_true rfl) (fun E => ?_)
  unfold f_X5_copyFrom
  refine r_aload_n_0 dX5_copyFrom_0 rfl ?_
  refine r_aload_n_1 dX5_copyFrom_1 rfl ?_
  refine r_geti (cc := 5) 0 hp1 rfl uX5 (by decide) rfl fw_X5_9 dX5_copyFrom_2 ?_
  refine r_puti (cc := 5) 0 tyX5 tyX5_ok nmX5 rfl (by decide +kernel) hp0 rfl uX5 (by decide) rfl fw_X5_9 dX5_copyFrom_5 ?_
  refine r_bd (fun d1 => ?_)
  refine r_aload_n_1 dX5_copyFrom_8 rfl ?_
  refine r_getr (t := (rf p1 1)) (cc := 5) 1 hp1 rfl uX5 (by decide) rfl fw_X5_15 rfl dX5_copyFrom_9 ?_
  refine r_aload_n_0 dX5_copyFrom_12 rfl ?_
  refine r_getr (t := (rf p0 1)) (cc := 5) 1 hp0 rfl uX5 (by decide) rfl fw_X5_15 rfl dX5_copyFrom_13 ?_
  refine r_callSNU [] (am_X9_copyRow (rf p1 1) (kr_5_1 hp1) (rf p0 1) (kr_5_1 hp0) d1) cf_X9_copyRow wn_X5_29 (by decide) dX5_copyFrom_16 rfl (Nat.le_of_ble_eq_true rfl) ⟨rfl, rfl⟩ (fun q2 => ?_)
  refine r_aload_n_1 dX5_copyFrom_19 rfl ?_
  refine r_getr (t := (rf p1 2)) (cc := 5) 2 hp1 rfl uX5 (by decide) rfl fw_X5_19 rfl dX5_copyFrom_20 ?_
  refine r_aload_n_0 dX5_copyFrom_23 rfl ?_
  refine r_getr (t := (rf p0 2)) (cc := 5) 2 hp0 rfl uX5 (by decide) rfl fw_X5_19 rfl dX5_copyFrom_24 ?_
  refine r_callSNU [] (am_X9_copyRow (rf p1 2) (kr_5_2 hp1) (rf p0 2) (kr_5_2 hp0) q2.2) cf_X9_copyRow wn_X5_29 (by decide) dX5_copyFrom_27 rfl (Nat.le_of_ble_eq_true rfl) ⟨rfl, rfl⟩ (fun q3 => ?_)
  refine r_aload_n_1 dX5_copyFrom_30 rfl ?_
  refine r_getr (t := (rf p1 3)) (cc := 5) 3 hp1 rfl uX5 (by decide) rfl fw_X5_22 rfl dX5_copyFrom_31 ?_
  refine r_aload_n_0 dX5_copyFrom_34 rfl ?_
  refine r_getr (t := (rf p0 3)) (cc := 5) 3 hp0 rfl uX5 (by decide) rfl fw_X5_22 rfl dX5_copyFrom_35 ?_
  refine r_callSNU [] (am_X9_copyRow (rf p1 3) (kr_5_3 hp1) (rf p0 3) (kr_5_3 hp0) q3.2) cf_X9_copyRow wn_X5_29 (by decide) dX5_copyFrom_38 rfl (Nat.le_of_ble_eq_true rfl) ⟨rfl, rfl⟩ (fun q4 => ?_)
  exact r_return dX5_copyFrom_41 rfl
theorem cf_X5_copyFrom : CFv mi_X5_copyFrom 1 := ⟨iw_X5_copyFrom, vw_X5_copyFrom, nw_X5, cw_X5_copyFrom, by unfold plainF; decide +kernel⟩
abbrev si_X1_copyFrom : SI := (cX1_copyFrom, RX1, 2, none, 2, 43)
def f_X1_copyFrom (p0 : Nat) (p1 : Nat) (d : DD) : Option (Unit × DD) :=
  bd (u1 d p0 0 (d.1 p1 0)) fun d1 =>
  bd (u1 d1 p0 1 (d1.1 p1 1)) fun d2 =>
  (f_X9_copyLongs (rf p1 2) (rf p0 2) d2).bind fun q3 =>
  (f_X9_copyRow (rf p1 3) (rf p0 3) q3.2).bind fun q4 =>
  (f_X9_copyRow (rf p1 4) (rf p0 4) q4.2).bind fun q5 =>
  (f_X9_copyRow (rf p1 5) (rf p0 5) q5.2).bind fun q6 =>
  (f_X9_copyLongs (rf p1 6) (rf p0 6) q6.2).bind fun q7 =>
  (f_X9_copyRow (rf p1 7) (rf p0 7) q7.2).bind fun q8 =>
  (f_X9_copyRow (rf p1 8) (rf p0 8) q8.2).bind fun q9 =>
  (f_X9_copyRow (rf p1 9) (rf p0 9) q9.2).bind fun q10 =>
  (f_X9_copyRow (rf p1 10) (rf p0 10) q10.2).bind fun q11 =>
  (f_X5_copyFrom (rf p0 11) (rf p1 11) q11.2).bind fun q12 =>
  some ((), q12.2)
set_option maxRecDepth 100000 in
set_option maxHeartbeats 4000000 in
theorem am_X1_copyFrom (p0 : Nat) (hp0 : kd p0 = 5) (p1 : Nat) (hp1 : kd p1 = 5) (d : DD) : AM wrU mi_X1_copyFrom 2 43 [.ref p0, .ref p1] d (f_X1_copyFrom p0 p1 d) := by
  refine AM_intro (si := si_X1_copyFrom) (lv := [(0, .ref p0), (1, .ref p1)]) rfl (by decide +kernel) rfl (Nat.le_of_ble_eq_true rfl) (fun E => ?_)
  unfold f_X1_copyFrom
  refine r_aload_n_0 dX1_copyFrom_0 rfl ?_
  refine r_aload_n_1 dX1_copyFrom_1 rfl ?_
  refine r_geti (cc := 1) 0 hp1 rfl uX1 (by decide) rfl fw_X1_9 dX1_copyFrom_2 ?_
  refine r_puti (cc := 1) 0 tyX1 tyX1_ok nmX1 rfl (by decide +kernel) hp0 rfl uX1 (by decide) rfl fw_X1_9 dX1_copyFrom_5 ?_
  refine r_bd (fun d1 => ?_)
  refine r_aload_n_0 dX1_copyFrom_8 rfl ?_
  refine r_aload_n_1 dX1_copyFrom_9 rfl ?_
  refine r_geti (cc := 1) 1 hp1 rfl uX1 (by decide) rfl fw_X1_15 dX1_copyFrom_10 ?_
  refine r_puti (cc := 1) 1 tyX1 tyX1_ok nmX1 rfl (by decide +kernel) hp0 rfl uX1 (by decide) rfl fw_X1_15 dX1_copyFrom_13 ?_
  refine r_bd (fun d2 => ?_)
  refine r_aload_n_1 dX1_copyFrom_16 rfl ?_
  refine r_getr (t := (rf p1 2)) (cc := 1) 2 hp1 rfl uX1 (by decide) rfl fw_X1_18 rfl dX1_copyFrom_17 ?_
  refine r_aload_n_0 dX1_copyFrom_20 rfl ?_
  refine r_getr (t := (rf p0 2)) (cc := 1) 2 hp0 rfl uX1 (by decide) rfl fw_X1_18 rfl dX1_copyFrom_21 ?_
  refine r_callSNU [] (am_X9_copyLongs (rf p1 2) (kr_1_2 hp1) (rf p0 2) (kr_1_2 hp0) d2) cf_X9_copyLongs wn_X1_63 (by decide) dX1_copyFrom_24 rfl (Nat.le_of_ble_eq_true rfl) ⟨rfl, rfl⟩ (fun q3 => ?_)
  refine r_aload_n_1 dX1_copyFrom_27 rfl ?_
  refine r_getr (t := (rf p1 3)) (cc := 1) 3 hp1 rfl uX1 (by decide) rfl fw_X1_22 rfl dX1_copyFrom_28 ?_
  refine r_aload_n_0 dX1_copyFrom_31 rfl ?_
  refine r_getr (t := (rf p0 3)) (cc := 1) 3 hp0 rfl uX1 (by decide) rfl fw_X1_22 rfl dX1_copyFrom_32 ?_
  refine r_callSNU [] (am_X9_copyRow (rf p1 3) (kr_1_3 hp1) (rf p0 3) (kr_1_3 hp0) q3.2) cf_X9_copyRow wn_X1_67 (by decide) dX1_copyFrom_35 rfl (Nat.le_of_ble_eq_true rfl) ⟨rfl, rfl⟩ (fun q4 => ?_)
  refine r_aload_n_1 dX1_copyFrom_38 rfl ?_
  refine r_getr (t := (rf p1 4)) (cc := 1) 4 hp1 rfl uX1 (by decide) rfl fw_X1_26 rfl dX1_copyFrom_39 ?_
  refine r_aload_n_0 dX1_copyFrom_42 rfl ?_
  refine r_getr (t := (rf p0 4)) (cc := 1) 4 hp0 rfl uX1 (by decide) rfl fw_X1_26 rfl dX1_copyFrom_43 ?_
  refine r_callSNU [] (am_X9_copyRow (rf p1 4) (kr_1_4 hp1) (rf p0 4) (kr_1_4 hp0) q4.2) cf_X9_copyRow wn_X1_67 (by decide) dX1_copyFrom_46 rfl (Nat.le_of_ble_eq_true rfl) ⟨rfl, rfl⟩ (fun q5 => ?_)
  refine r_aload_n_1 dX1_copyFrom_49 rfl ?_
  refine r_getr (t := (rf p1 5)) (cc := 1) 5 hp1 rfl uX1 (by decide) rfl fw_X1_29 rfl dX1_copyFrom_50 ?_
  refine r_aload_n_0 dX1_copyFrom_53 rfl ?_
  refine r_getr (t := (rf p0 5)) (cc := 1) 5 hp0 rfl uX1 (by decide) rfl fw_X1_29 rfl dX1_copyFrom_54 ?_
  refine r_callSNU [] (am_X9_copyRow (rf p1 5) (kr_1_5 hp1) (rf p0 5) (kr_1_5 hp0) q5.2) cf_X9_copyRow wn_X1_67 (by decide) dX1_copyFrom_57 rfl (Nat.le_of_ble_eq_true rfl) ⟨rfl, rfl⟩ (fun q6 => ?_)
  refine r_aload_n_1 dX1_copyFrom_60 rfl ?_
  refine r_getr (t := (rf p1 6)) (cc := 1) 6 hp1 rfl uX1 (by decide) rfl fw_X1_32 rfl dX1_copyFrom_61 ?_
  refine r_aload_n_0 dX1_copyFrom_64 rfl ?_
  refine r_getr (t := (rf p0 6)) (cc := 1) 6 hp0 rfl uX1 (by decide) rfl fw_X1_32 rfl dX1_copyFrom_65 ?_
  refine r_callSNU [] (am_X9_copyLongs (rf p1 6) (kr_1_6 hp1) (rf p0 6) (kr_1_6 hp0) q6.2) cf_X9_copyLongs wn_X1_63 (by decide) dX1_copyFrom_68 rfl (Nat.le_of_ble_eq_true rfl) ⟨rfl, rfl⟩ (fun q7 => ?_)
  refine r_aload_n_1 dX1_copyFrom_71 rfl ?_
  refine r_getr (t := (rf p1 7)) (cc := 1) 7 hp1 rfl uX1 (by decide) rfl fw_X1_35 rfl dX1_copyFrom_72 ?_
  refine r_aload_n_0 dX1_copyFrom_75 rfl ?_
  refine r_getr (t := (rf p0 7)) (cc := 1) 7 hp0 rfl uX1 (by decide) rfl fw_X1_35 rfl dX1_copyFrom_76 ?_
  refine r_callSNU [] (am_X9_copyRow (rf p1 7) (kr_1_7 hp1) (rf p0 7) (kr_1_7 hp0) q7.2) cf_X9_copyRow wn_X1_67 (by decide) dX1_copyFrom_79 rfl (Nat.le_of_ble_eq_true rfl) ⟨rfl, rfl⟩ (fun q8 => ?_)
  refine r_aload_n_1 dX1_copyFrom_82 rfl ?_
  refine r_getr (t := (rf p1 8)) (cc := 1) 8 hp1 rfl uX1 (by decide) rfl fw_X1_38 rfl dX1_copyFrom_83 ?_
  refine r_aload_n_0 dX1_copyFrom_86 rfl ?_
  refine r_getr (t := (rf p0 8)) (cc := 1) 8 hp0 rfl uX1 (by decide) rfl fw_X1_38 rfl dX1_copyFrom_87 ?_
  refine r_callSNU [] (am_X9_copyRow (rf p1 8) (kr_1_8 hp1) (rf p0 8) (kr_1_8 hp0) q8.2) cf_X9_copyRow wn_X1_67 (by decide) dX1_copyFrom_90 rfl (Nat.le_of_ble_eq_true rfl) ⟨rfl, rfl⟩ (fun q9 => ?_)
  refine r_aload_n_1 dX1_copyFrom_93 rfl ?_
  refine r_getr (t := (rf p1 9)) (cc := 1) 9 hp1 rfl uX1 (by decide) rfl fw_X1_41 rfl dX1_copyFrom_94 ?_
  refine r_aload_n_0 dX1_copyFrom_97 rfl ?_
  refine r_getr (t := (rf p0 9)) (cc := 1) 9 hp0 rfl uX1 (by decide) rfl fw_X1_41 rfl dX1_copyFrom_98 ?_
  refine r_callSNU [] (am_X9_copyRow (rf p1 9) (kr_1_9 hp1) (rf p0 9) (kr_1_9 hp0) q9.2) cf_X9_copyRow wn_X1_67 (by decide) dX1_copyFrom_101 rfl (Nat.le_of_ble_eq_true rfl) ⟨rfl, rfl⟩ (fun q10 => ?_)
  refine r_aload_n_1 dX1_copyFrom_104 rfl ?_
  refine r_getr (t := (rf p1 10)) (cc := 1) 10 hp1 rfl uX1 (by decide) rfl fw_X1_44 rfl dX1_copyFrom_105 ?_
  refine r_aload_n_0 dX1_copyFrom_108 rfl ?_
  refine r_getr (t := (rf p0 10)) (cc := 1) 10 hp0 rfl uX1 (by decide) rfl fw_X1_44 rfl dX1_copyFrom_109 ?_
  refine r_callSNU [] (am_X9_copyRow (rf p1 10) (kr_1_10 hp1) (rf p0 10) (kr_1_10 hp0) q10.2) cf_X9_copyRow wn_X1_67 (by decide) dX1_copyFrom_112 rfl (Nat.le_of_ble_eq_true rfl) ⟨rfl, rfl⟩ (fun q11 => ?_)
  refine r_aload_n_0 dX1_copyFrom_115 rfl ?_
  refine r_getr (t := (rf p0 11)) (cc := 1) 11 hp0 rfl uX1 (by decide) rfl fw_X1_50 rfl dX1_copyFrom_116 ?_
  refine r_aload_n_1 dX1_copyFrom_119 rfl ?_
  refine r_getr (t := (rf p1 11)) (cc := 1) 11 hp1 rfl uX1 (by decide) rfl fw_X1_50 rfl dX1_copyFrom_120 ?_
  refine r_callVU (cc := 5) [] (am_X5_copyFrom (rf p0 11) (kr_1_11 hp0) (rf p1 11) (kr_1_11 hp1) q11.2) (kr_1_11 hp0) rfl cf_X5_copyFrom mw_X1_71 (by decide) dX1_copyFrom_123 rfl (Nat.le_of_ble_eq_true rfl) ⟨rfl, rfl⟩ (fun q12 => ?_)
  exact r_return dX1_copyFrom_126 rfl
theorem cf_X1_copyFrom : CFv mi_X1_copyFrom 1 := ⟨iw_X1_copyFrom, vw_X1_copyFrom, nw_X1, cw_X1_copyFrom, by unfold plainF; decide +kernel⟩
abbrev si_X1_firstOf : SI := (cX1_firstOf, RX1, 4, (some .int), 0, 0)
def f_X1_firstOf_4B (k4 : Int32 → Int32 → Int32 → Int32 → DD → Option (Int32 × DD)) (v0 : Int32) (v1 : Int32) (v2 : Int32) (v3 : Int32) (d : DD) : Option (Int32 × DD) :=
  if (8 : Int32) < v3 then
  some (v2, d)
  else
  if v3 < v0 then
    k4 v0 v1 v2 (v3 + (1 : Int32)) d
    else
    if v3 < v1 then
      bd (v2 + v3) fun x1 =>
        k4 v0 v1 x1 (v3 + (1 : Int32)) d
      else
      k4 v0 v1 v2 (v3 + (1 : Int32)) d
def f_X1_firstOf_4 : Nat → Int32 → Int32 → Int32 → Int32 → DD → Option (Int32 × DD)
  | 0, _, _, _, _, _ => none
  | n + 1, v0, v1, v2, v3, d => f_X1_firstOf_4B (f_X1_firstOf_4 n) v0 v1 v2 v3 d
set_option maxRecDepth 100000 in
set_option maxHeartbeats 4000000 in
theorem w_X1_firstOf_4B {E : XE} (k4 : Int32 → Int32 → Int32 → Int32 → DD → Option (Int32 × DD)) (hk4 : ∀ (v0 : Int32) (v1 : Int32) (v2 : Int32) (v3 : Int32) (d : DD), AW E si_X1_firstOf 0 0 (QM E wrI) (k4 v0 v1 v2 v3 d) 4 [(0, .int v0), (1, .int v1), (2, .int v2), (3, .int v3)] [] d) (v0 : Int32) (v1 : Int32) (v2 : Int32) (v3 : Int32) (d : DD) : AW E si_X1_firstOf 0 0 (QM E wrI) (f_X1_firstOf_4B k4 v0 v1 v2 v3 d) 4 [(0, .int v0), (1, .int v1), (2, .int v2), (3, .int v3)] [] d := by
  unfold f_X1_firstOf_4B
  refine r_iload_n_3 dX1_firstOf_4 rfl ?_
  refine r_bipush dX1_firstOf_5 kb_8 ?_
  refine r_icmp_gt (tgt := 30) dX1_firstOf_7 (by decide) ?_ ?_
  · refine r_iload_n_2 dX1_firstOf_30 rfl ?_
    exact r_ireturn dX1_firstOf_31 rfl
  · refine r_iload_n_3 dX1_firstOf_10 rfl ?_
    refine r_iload_n_0 dX1_firstOf_11 rfl ?_
    refine r_icmp_lt (tgt := 24) dX1_firstOf_12 (by decide) ?_ ?_
    · refine r_iinc_3 dX1_firstOf_24 ki_1 (by decide) rfl ?_
      refine r_goto (tgt := 4) dX1_firstOf_27 (by decide) ?_
      exact hk4 v0 v1 v2 (v3 + (1 : Int32)) d
    · refine r_iload_n_3 dX1_firstOf_15 rfl ?_
      refine r_iload_n_1 dX1_firstOf_16 rfl ?_
      refine r_icmp_ge (tgt := 24) dX1_firstOf_17 (by decide) ?_ ?_
      · refine r_iinc_3 dX1_firstOf_24 ki_1 (by decide) rfl ?_
        refine r_goto (tgt := 4) dX1_firstOf_27 (by decide) ?_
        exact hk4 v0 v1 v2 (v3 + (1 : Int32)) d
      · refine r_iload_n_2 dX1_firstOf_20 rfl ?_
        refine r_iload_n_3 dX1_firstOf_21 rfl ?_
        refine r_iadd dX1_firstOf_22 ?_
        refine r_bdI (fun x1 => ?_)
        refine r_istore_n_2 dX1_firstOf_23 rfl (by decide) rfl ?_
        refine r_iinc_3 dX1_firstOf_24 ki_1 (by decide) rfl ?_
        refine r_goto (tgt := 4) dX1_firstOf_27 (by decide) ?_
        exact hk4 v0 v1 x1 (v3 + (1 : Int32)) d
theorem w_X1_firstOf_4 {E : XE} (n : Nat) : ∀ (v0 : Int32) (v1 : Int32) (v2 : Int32) (v3 : Int32) (d : DD), AW E si_X1_firstOf 0 0 (QM E wrI) (f_X1_firstOf_4 n v0 v1 v2 v3 d) 4 [(0, .int v0), (1, .int v1), (2, .int v2), (3, .int v3)] [] d := by
  induction n with
  | zero => intros; exact r_none
  | succ n ih => intro v0 v1 v2 v3 d; exact w_X1_firstOf_4B (f_X1_firstOf_4 n) ih v0 v1 v2 v3 d
def f_X1_firstOf (p0 : Int32) (p1 : Int32) (d : DD) : Option (Int32 × DD) :=
  f_X1_firstOf_4 FU p0 p1 (0 : Int32) (1 : Int32) d
set_option maxRecDepth 100000 in
set_option maxHeartbeats 4000000 in
theorem am_X1_firstOf (p0 : Int32) (p1 : Int32) (d : DD) : AM wrI mi_X1_firstOf 0 0 [.int p0, .int p1] d (f_X1_firstOf p0 p1 d) := by
  refine AM_intro (si := si_X1_firstOf) (lv := [(0, .int p0), (1, .int p1)]) rfl (by decide +kernel) rfl (Nat.le_of_ble_eq_true rfl) (fun E => ?_)
  unfold f_X1_firstOf
  refine r_iconst dX1_firstOf_0 ki_0 ?_
  refine r_istore_n_x dX1_firstOf_1 rfl (by decide) rfl ?_
  refine r_iconst dX1_firstOf_2 ki_1 ?_
  refine r_istore_n_x dX1_firstOf_3 rfl (by decide) rfl ?_
  refine r_sub [2, 3, 1, 0] (lv' := [(0, .int p0), (1, .int p1), (2, .int (0 : Int32)), (3, .int (1 : Int32))]) rfl ?_
  exact w_X1_firstOf_4 FU p0 p1 (0 : Int32) (1 : Int32) d
theorem cf_X1_firstOf : CFs mi_X1_firstOf 2 := ⟨sw_X1_firstOf, nw_X1, cw_X1_firstOf, by unfold plainF; decide +kernel⟩
abbrev si_X1_hasKind : SI := (cX1_hasKind, RX1, 2, (some .boolean), 0, 0)
def f_X1_hasKind (p0 : Nat) (p1 : Int32) (d : DD) : Option (Int32 × DD) :=
  if p1 < 0 then
  some ((0 : Int32), d)
  else
  if p1 < (d.1 p0 0) then
    some ((1 : Int32), d)
    else
    some ((0 : Int32), d)
set_option maxRecDepth 100000 in
set_option maxHeartbeats 4000000 in
theorem am_X1_hasKind (p0 : Nat) (hp0 : kd p0 = 5) (p1 : Int32) (d : DD) : AM wrI mi_X1_hasKind 0 0 [.ref p0, .int p1] d (f_X1_hasKind p0 p1 d) := by
  refine AM_intro (si := si_X1_hasKind) (lv := [(0, .ref p0), (1, .int p1)]) rfl (by decide +kernel) rfl (Nat.le_of_ble_eq_true rfl) (fun E => ?_)
  unfold f_X1_hasKind
  refine r_iload_n_1 dX1_hasKind_0 rfl ?_
  refine r_if_lt (tgt := 16) dX1_hasKind_1 (by decide) ?_ ?_
  · refine r_iconst dX1_hasKind_16 ki_0 ?_
    exact r_zreturn dX1_hasKind_17 rfl rfl
  · refine r_iload_n_1 dX1_hasKind_4 rfl ?_
    refine r_aload_n_0 dX1_hasKind_5 rfl ?_
    refine r_geti (cc := 1) 0 hp0 rfl uX1 (by decide) rfl fw_X1_9 dX1_hasKind_6 ?_
    refine r_icmp_ge (tgt := 16) dX1_hasKind_9 (by decide) ?_ ?_
    · refine r_iconst dX1_hasKind_16 ki_0 ?_
      exact r_zreturn dX1_hasKind_17 rfl rfl
    · refine r_iconst dX1_hasKind_12 ki_1 ?_
      refine r_goto (tgt := 17) dX1_hasKind_13 (by decide) ?_
      exact r_zreturn dX1_hasKind_17 rfl rfl
theorem cf_X1_hasKind : CFv mi_X1_hasKind 1 := ⟨iw_X1_hasKind, vw_X1_hasKind, nw_X1, cw_X1_hasKind, by unfold plainF; decide +kernel⟩
abbrev si_X1_timetablesOf : SI := (cX1_timetablesOf, RX1, 2, (some .int), 1, 23)
def f_X1_timetablesOf (p0 : Nat) (p1 : Int32) (d : DD) : Option (Int32 × DD) :=
  (f_X9_at (rf p0 3) p1 d).bind fun q1 =>
  (f_X9_at (rf p0 4) p1 q1.2).bind fun q2 =>
  (f_X1_firstOf q1.1 (q2.1 + (1 : Int32)) q2.2).bind fun q3 =>
  some (q3.1, q3.2)
set_option maxRecDepth 100000 in
set_option maxHeartbeats 4000000 in
theorem am_X1_timetablesOf (p0 : Nat) (hp0 : kd p0 = 5) (p1 : Int32) (d : DD) : AM wrI mi_X1_timetablesOf 1 23 [.ref p0, .int p1] d (f_X1_timetablesOf p0 p1 d) := by
  refine AM_intro (si := si_X1_timetablesOf) (lv := [(0, .ref p0), (1, .int p1)]) rfl (by decide +kernel) rfl (Nat.le_of_ble_eq_true rfl) (fun E => ?_)
  unfold f_X1_timetablesOf
  refine r_aload_n_0 dX1_timetablesOf_0 rfl ?_
  refine r_getr (t := (rf p0 3)) (cc := 1) 3 hp0 rfl uX1 (by decide) rfl fw_X1_22 rfl dX1_timetablesOf_1 ?_
  refine r_iload_n_1 dX1_timetablesOf_4 rfl ?_
  refine r_callSNI [] (am_X9_at (rf p0 3) (kr_1_3 hp0) p1 d) cf_X9_at wn_X1_79 (by decide) dX1_timetablesOf_5 rfl (Nat.le_of_ble_eq_true rfl) ⟨rfl, rfl⟩ (fun q1 => ?_)
  refine r_aload_n_0 dX1_timetablesOf_8 rfl ?_
  refine r_getr (t := (rf p0 4)) (cc := 1) 4 hp0 rfl uX1 (by decide) rfl fw_X1_26 rfl dX1_timetablesOf_9 ?_
  refine r_iload_n_1 dX1_timetablesOf_12 rfl ?_
  refine r_callSNI [.int q1.1] (am_X9_at (rf p0 4) (kr_1_4 hp0) p1 q1.2) cf_X9_at wn_X1_79 (by decide) dX1_timetablesOf_13 rfl (Nat.le_of_ble_eq_true rfl) ⟨rfl, rfl⟩ (fun q2 => ?_)
  refine r_iconst dX1_timetablesOf_16 ki_1 ?_
  refine r_iadd dX1_timetablesOf_17 ?_
  refine r_callSI [] (am_X1_firstOf q1.1 (q2.1 + (1 : Int32)) q2.2) cf_X1_firstOf mw_X1_87 (by decide) dX1_timetablesOf_18 rfl (Nat.le_of_ble_eq_true rfl) ⟨rfl, rfl⟩ (fun q3 => ?_)
  exact r_ireturn dX1_timetablesOf_21 rfl
theorem cf_X1_timetablesOf : CFv mi_X1_timetablesOf 1 := ⟨iw_X1_timetablesOf, vw_X1_timetablesOf, nw_X1, cw_X1_timetablesOf, by unfold plainF; decide +kernel⟩
abbrev si_X1_hoursWithTurns : SI := (cX1_hoursWithTurns, RX1, 3, (some .int), 1, 21)
def f_X1_hoursWithTurns_4B (p0 : Nat) (k4 : Int32 → Int32 → DD → Option (Int32 × DD)) (v1 : Int32) (v2 : Int32) (d : DD) : Option (Int32 × DD) :=
  if v2 < (30 : Int32) then
  (f_X9_at (rf p0 10) v2 d).bind fun q1 =>
    if q1.1 = (-1 : Int32) then
    k4 v1 (v2 + (1 : Int32)) q1.2
    else
    k4 (v1 + (1 : Int32)) (v2 + (1 : Int32)) q1.2
  else
  some (v1, d)
def f_X1_hoursWithTurns_4 (p0 : Nat) : Nat → Int32 → Int32 → DD → Option (Int32 × DD)
  | 0, _, _, _ => none
  | n + 1, v1, v2, d => f_X1_hoursWithTurns_4B p0 (f_X1_hoursWithTurns_4 p0 n) v1 v2 d
set_option maxRecDepth 100000 in
set_option maxHeartbeats 4000000 in
theorem w_X1_hoursWithTurns_4B {E : XE} (p0 : Nat) (hp0 : kd p0 = 5) (k4 : Int32 → Int32 → DD → Option (Int32 × DD)) (hk4 : ∀ (v1 : Int32) (v2 : Int32) (d : DD), AW E si_X1_hoursWithTurns 0 0 (QM E wrI) (k4 v1 v2 d) 4 [(0, .ref p0), (1, .int v1), (2, .int v2)] [] d) (v1 : Int32) (v2 : Int32) (d : DD) : AW E si_X1_hoursWithTurns 0 0 (QM E wrI) (f_X1_hoursWithTurns_4B p0 k4 v1 v2 d) 4 [(0, .ref p0), (1, .int v1), (2, .int v2)] [] d := by
  unfold f_X1_hoursWithTurns_4B
  refine r_iload_n_2 dX1_hoursWithTurns_4 rfl ?_
  refine r_bipush dX1_hoursWithTurns_5 kb_30 ?_
  refine r_icmp_ge (tgt := 31) dX1_hoursWithTurns_7 (by decide) ?_ ?_
  · refine r_iload_n_1 dX1_hoursWithTurns_31 rfl ?_
    exact r_ireturn dX1_hoursWithTurns_32 rfl
  · refine r_aload_n_0 dX1_hoursWithTurns_10 rfl ?_
    refine r_getr (t := (rf p0 10)) (cc := 1) 10 hp0 rfl uX1 (by decide) rfl fw_X1_44 rfl dX1_hoursWithTurns_11 ?_
    refine r_iload_n_2 dX1_hoursWithTurns_14 rfl ?_
    refine r_callSNI [] (am_X9_at (rf p0 10) (kr_1_10 hp0) v2 d) cf_X9_at wn_X1_79 (by decide) dX1_hoursWithTurns_15 rfl (Nat.le_of_ble_eq_true rfl) ⟨rfl, rfl⟩ (fun q1 => ?_)
    refine r_iconst dX1_hoursWithTurns_18 ki_m1 ?_
    refine r_icmp_eq (tgt := 25) dX1_hoursWithTurns_19 (by decide) ?_ ?_
    · refine r_iinc_2 dX1_hoursWithTurns_25 ki_1 (by decide) rfl ?_
      refine r_goto (tgt := 4) dX1_hoursWithTurns_28 (by decide) ?_
      exact hk4 v1 (v2 + (1 : Int32)) q1.2
    · refine r_iinc_1 dX1_hoursWithTurns_22 ki_1 (by decide) rfl ?_
      refine r_iinc_2 dX1_hoursWithTurns_25 ki_1 (by decide) rfl ?_
      refine r_goto (tgt := 4) dX1_hoursWithTurns_28 (by decide) ?_
      exact hk4 (v1 + (1 : Int32)) (v2 + (1 : Int32)) q1.2
theorem w_X1_hoursWithTurns_4 {E : XE} (p0 : Nat) (hp0 : kd p0 = 5) (n : Nat) : ∀ (v1 : Int32) (v2 : Int32) (d : DD), AW E si_X1_hoursWithTurns 0 0 (QM E wrI) (f_X1_hoursWithTurns_4 p0 n v1 v2 d) 4 [(0, .ref p0), (1, .int v1), (2, .int v2)] [] d := by
  induction n with
  | zero => intros; exact r_none
  | succ n ih => intro v1 v2 d; exact w_X1_hoursWithTurns_4B p0 hp0 (f_X1_hoursWithTurns_4 p0 n) ih v1 v2 d
def f_X1_hoursWithTurns (p0 : Nat) (d : DD) : Option (Int32 × DD) :=
  f_X1_hoursWithTurns_4 p0 FU (0 : Int32) (0 : Int32) d
set_option maxRecDepth 100000 in
set_option maxHeartbeats 4000000 in
theorem am_X1_hoursWithTurns (p0 : Nat) (hp0 : kd p0 = 5) (d : DD) : AM wrI mi_X1_hoursWithTurns 1 21 [.ref p0] d (f_X1_hoursWithTurns p0 d) := by
  refine AM_intro (si := si_X1_hoursWithTurns) (lv := [(0, .ref p0)]) rfl (by decide +kernel) rfl (Nat.le_of_ble_eq_true rfl) (fun E => ?_)
  unfold f_X1_hoursWithTurns
  refine r_iconst dX1_hoursWithTurns_0 ki_0 ?_
  refine r_istore_n_x dX1_hoursWithTurns_1 rfl (by decide) rfl ?_
  refine r_iconst dX1_hoursWithTurns_2 ki_0 ?_
  refine r_istore_n_x dX1_hoursWithTurns_3 rfl (by decide) rfl ?_
  refine r_sub [2, 1, 0] (lv' := [(0, .ref p0), (1, .int (0 : Int32)), (2, .int (0 : Int32))]) rfl ?_
  exact w_X1_hoursWithTurns_4 p0 hp0 FU (0 : Int32) (0 : Int32) d
theorem cf_X1_hoursWithTurns : CFv mi_X1_hoursWithTurns 0 := ⟨iw_X1_hoursWithTurns, vw_X1_hoursWithTurns, nw_X1, cw_X1_hoursWithTurns, by unfold plainF; decide +kernel⟩
abbrev si_X1_passing : SI := (cX1_passing, RX1, 9, (some .long), 1, 21)
def f_X1_passing_34B (p0 : Nat) (k34 : Int32 → Int64 → Int32 → Int32 → Int32 → Int32 → DD → Option (Int64 × DD)) (v2 : Int32) (v3 : Int64) (v5 : Int32) (v6 : Int32) (v7 : Int32) (v8 : Int32) (d : DD) : Option (Int64 × DD) :=
  if (8 : Int32) < v8 then
  some (v3, d)
  else
  if v8 < v5 then
    k34 v2 v3 v5 v6 v7 (v8 + (1 : Int32)) d
    else
    if v6 < v8 then
      k34 v2 v3 v5 v6 v7 (v8 + (1 : Int32)) d
      else
      if v8 = 0 then none else
        bd (v3 ||| ((1 : Int64) <<< ((v7 + (v2 - v2 / v8 * v8)).toInt64 &&& 63))) fun x3 =>
        bd (v7 + v8) fun x4 =>
        k34 v2 x3 v5 v6 x4 (v8 + (1 : Int32)) d
def f_X1_passing_34 (p0 : Nat) : Nat → Int32 → Int64 → Int32 → Int32 → Int32 → Int32 → DD → Option (Int64 × DD)
  | 0, _, _, _, _, _, _, _ => none
  | n + 1, v2, v3, v5, v6, v7, v8, d => f_X1_passing_34B p0 (f_X1_passing_34 p0 n) v2 v3 v5 v6 v7 v8 d
set_option maxRecDepth 100000 in
set_option maxHeartbeats 4000000 in
theorem w_X1_passing_34B {E : XE} (p0 : Nat) (hp0 : kd p0 = 5) (k34 : Int32 → Int64 → Int32 → Int32 → Int32 → Int32 → DD → Option (Int64 × DD)) (hk34 : ∀ (v2 : Int32) (v3 : Int64) (v5 : Int32) (v6 : Int32) (v7 : Int32) (v8 : Int32) (d : DD), AW E si_X1_passing 0 0 (QM E wrL) (k34 v2 v3 v5 v6 v7 v8 d) 34 [(2, .int v2), (3, .long v3), (5, .int v5), (6, .int v6), (7, .int v7), (8, .int v8)] [] d) (v2 : Int32) (v3 : Int64) (v5 : Int32) (v6 : Int32) (v7 : Int32) (v8 : Int32) (d : DD) : AW E si_X1_passing 0 0 (QM E wrL) (f_X1_passing_34B p0 k34 v2 v3 v5 v6 v7 v8 d) 34 [(2, .int v2), (3, .long v3), (5, .int v5), (6, .int v6), (7, .int v7), (8, .int v8)] [] d := by
  unfold f_X1_passing_34B
  refine r_iload_w_5 dX1_passing_34 ?_
  refine r_bipush dX1_passing_36 kb_8 ?_
  refine r_icmp_gt (tgt := 80) dX1_passing_38 (by decide) ?_ ?_
  · refine r_lload_n_1 dX1_passing_80 rfl ?_
    exact r_lreturn dX1_passing_81 rfl
  · refine r_iload_w_5 dX1_passing_41 ?_
    refine r_iload_w_2 dX1_passing_43 ?_
    refine r_icmp_lt (tgt := 74) dX1_passing_45 (by decide) ?_ ?_
    · refine r_iinc_5 dX1_passing_74 ki_1 (by decide) rfl ?_
      refine r_goto (tgt := 34) dX1_passing_77 (by decide) ?_
      exact hk34 v2 v3 v5 v6 v7 (v8 + (1 : Int32)) d
    · refine r_iload_w_5 dX1_passing_48 ?_
      refine r_iload_w_3 dX1_passing_50 ?_
      refine r_icmp_gt (tgt := 74) dX1_passing_52 (by decide) ?_ ?_
      · refine r_iinc_5 dX1_passing_74 ki_1 (by decide) rfl ?_
        refine r_goto (tgt := 34) dX1_passing_77 (by decide) ?_
        exact hk34 v2 v3 v5 v6 v7 (v8 + (1 : Int32)) d
      · refine r_lload_n_1 dX1_passing_55 rfl ?_
        refine r_lconst dX1_passing_56 kl_1 ?_
        refine r_iload_w_4 dX1_passing_57 ?_
        refine r_iload_n_0 dX1_passing_59 rfl ?_
        refine r_iload_w_5 dX1_passing_60 ?_
        refine r_if (fun _ => r_none) (fun hy => r_irem dX1_passing_62 hy ?_)
        refine r_iadd dX1_passing_63 ?_
        refine r_lshl dX1_passing_64 ?_
        refine r_lor dX1_passing_65 ?_
        refine r_bdJ (fun x3 => ?_)
        refine r_lstore_n_1 dX1_passing_66 rfl (by decide) rfl ?_
        refine r_iload_w_4 dX1_passing_67 ?_
        refine r_iload_w_5 dX1_passing_69 ?_
        refine r_iadd dX1_passing_71 ?_
        refine r_bdI (fun x4 => ?_)
        refine r_istore_w_4 dX1_passing_72 (by decide) rfl ?_
        refine r_iinc_5 dX1_passing_74 ki_1 (by decide) rfl ?_
        refine r_goto (tgt := 34) dX1_passing_77 (by decide) ?_
        exact hk34 v2 x3 v5 v6 x4 (v8 + (1 : Int32)) d
theorem w_X1_passing_34 {E : XE} (p0 : Nat) (hp0 : kd p0 = 5) (n : Nat) : ∀ (v2 : Int32) (v3 : Int64) (v5 : Int32) (v6 : Int32) (v7 : Int32) (v8 : Int32) (d : DD), AW E si_X1_passing 0 0 (QM E wrL) (f_X1_passing_34 p0 n v2 v3 v5 v6 v7 v8 d) 34 [(2, .int v2), (3, .long v3), (5, .int v5), (6, .int v6), (7, .int v7), (8, .int v8)] [] d := by
  induction n with
  | zero => intros; exact r_none
  | succ n ih => intro v2 v3 v5 v6 v7 v8 d; exact w_X1_passing_34B p0 hp0 (f_X1_passing_34 p0 n) ih v2 v3 v5 v6 v7 v8 d
def f_X1_passing (p0 : Nat) (p1 : Int32) (p2 : Int32) (d : DD) : Option (Int64 × DD) :=
  if p2 < 0 then
  some ((0 : Int64), d)
  else
  (f_X9_at (rf p0 3) p1 d).bind fun q1 =>
    (f_X9_at (rf p0 4) p1 q1.2).bind fun q2 =>
    f_X1_passing_34 p0 FU p2 (0 : Int64) q1.1 q2.1 (0 : Int32) (1 : Int32) q2.2
set_option maxRecDepth 100000 in
set_option maxHeartbeats 4000000 in
theorem am_X1_passing (p0 : Nat) (hp0 : kd p0 = 5) (p1 : Int32) (p2 : Int32) (d : DD) : AM wrL mi_X1_passing 1 21 [.ref p0, .int p1, .int p2] d (f_X1_passing p0 p1 p2 d) := by
  refine AM_intro (si := si_X1_passing) (lv := [(0, .ref p0), (1, .int p1), (2, .int p2)]) rfl (by decide +kernel) rfl (Nat.le_of_ble_eq_true rfl) (fun E => ?_)
  unfold f_X1_passing
  refine r_lconst dX1_passing_0 kl_0 ?_
  refine r_lstore_n_x dX1_passing_1 rfl (by decide) rfl ?_
  refine r_iload_n_3 dX1_passing_2 rfl ?_
  refine r_if_ge (tgt := 8) dX1_passing_3 (by decide) ?_ ?_
  · refine r_aload_n_1 dX1_passing_8 rfl ?_
    refine r_getr (t := (rf p0 3)) (cc := 1) 3 hp0 rfl uX1 (by decide) rfl fw_X1_22 rfl dX1_passing_9 ?_
    refine r_iload_n_2 dX1_passing_12 rfl ?_
    refine r_callSNI [] (am_X9_at (rf p0 3) (kr_1_3 hp0) p1 d) cf_X9_at wn_X1_79 (by decide) dX1_passing_13 rfl (Nat.le_of_ble_eq_true rfl) ⟨rfl, rfl⟩ (fun q1 => ?_)
    refine r_istore_w_x dX1_passing_16 (by decide) rfl ?_
    refine r_aload_n_2 dX1_passing_18 rfl ?_
    refine r_getr (t := (rf p0 4)) (cc := 1) 4 hp0 rfl uX1 (by decide) rfl fw_X1_26 rfl dX1_passing_19 ?_
    refine r_iload_n_3 dX1_passing_22 rfl ?_
    refine r_callSNI [] (am_X9_at (rf p0 4) (kr_1_4 hp0) p1 q1.2) cf_X9_at wn_X1_79 (by decide) dX1_passing_23 rfl (Nat.le_of_ble_eq_true rfl) ⟨rfl, rfl⟩ (fun q2 => ?_)
    refine r_istore_w_x dX1_passing_26 (by decide) rfl ?_
    refine r_iconst dX1_passing_28 ki_0 ?_
    refine r_istore_w_x dX1_passing_29 (by decide) rfl ?_
    refine r_iconst dX1_passing_31 ki_1 ?_
    refine r_istore_w_x dX1_passing_32 (by decide) rfl ?_
    refine r_sub [7, 4, 3, 2, 1, 0] (lv' := [(2, .int p2), (3, .long (0 : Int64)), (5, .int q1.1), (6, .int q2.1), (7, .int (0 : Int32)), (8, .int (1 : Int32))]) rfl ?_
    exact w_X1_passing_34 p0 hp0 FU p2 (0 : Int64) q1.1 q2.1 (0 : Int32) (1 : Int32) q2.2
  · refine r_lload_n_0 dX1_passing_6 rfl ?_
    exact r_lreturn dX1_passing_7 rfl
theorem cf_X1_passing : CFv mi_X1_passing 2 := ⟨iw_X1_passing, vw_X1_passing, nw_X1, cw_X1_passing, by unfold plainF; decide +kernel⟩
abbrev si_X8_branchTime : SI := (cX8_branchTime, RX8, 3, (some .long), 1, 21)
def f_X8_branchTime (p1 : Int32) (p2 : Int32) (d : DD) : Option (Int64 × DD) :=
  (f_X9_longAt 77 ((p1 * (3 : Int32)) + p2) d).bind fun q1 =>
  some (q1.1, q1.2)
set_option maxRecDepth 100000 in
set_option maxHeartbeats 4000000 in
theorem am_X8_branchTime (p1 : Int32) (p2 : Int32) (d : DD) : AM wrL mi_X8_branchTime 1 21 [.ref 72, .int p1, .int p2] d (f_X8_branchTime p1 p2 d) := by
  refine AM_intro (si := si_X8_branchTime) (lv := [(0, .ref 72), (1, .int p1), (2, .int p2)]) rfl (by decide +kernel) rfl (Nat.le_of_ble_eq_true rfl) (fun E => ?_)
  unfold f_X8_branchTime
  refine r_aload_n_0 dX8_branchTime_0 rfl ?_
  refine r_getr (t := 77) (cc := 8) 8 rfl rfl uX8 (by decide) rfl fw_X8_35 rfl dX8_branchTime_1 ?_
  refine r_iload_n_1 dX8_branchTime_4 rfl ?_
  refine r_iconst dX8_branchTime_5 ki_3 ?_
  refine r_imul dX8_branchTime_6 ?_
  refine r_iload_n_2 dX8_branchTime_7 rfl ?_
  refine r_iadd dX8_branchTime_8 ?_
  refine r_callSNL [] (am_X9_longAt 77 rfl ((p1 * (3 : Int32)) + p2) d) cf_X9_longAt wn_X8_123 (by decide) dX8_branchTime_9 rfl (Nat.le_of_ble_eq_true rfl) ⟨rfl, rfl⟩ (fun q1 => ?_)
  exact r_lreturn dX8_branchTime_12 rfl
theorem cf_X8_branchTime : CFv mi_X8_branchTime 2 := ⟨iw_X8_branchTime, vw_X8_branchTime, nw_X8, cw_X8_branchTime, by unfold plainF; decide +kernel⟩
abbrev si_X8_greatest : SI := (cX8_greatest, RX8, 4, (some .long), 1, 23)
def f_X8_greatest_4B (k4 : Int64 → Int32 → DD → Option (Int64 × DD)) (v1 : Int64) (v3 : Int32) (d : DD) : Option (Int64 × DD) :=
  if v3 < (8 : Int32) then
  (f_X9_longAt 82 v3 d).bind fun q1 =>
    bd (mxL v1 q1.1) fun x2 =>
    k4 x2 (v3 + (1 : Int32)) q1.2
  else
  some (v1, d)
def f_X8_greatest_4 : Nat → Int64 → Int32 → DD → Option (Int64 × DD)
  | 0, _, _, _ => none
  | n + 1, v1, v3, d => f_X8_greatest_4B (f_X8_greatest_4 n) v1 v3 d
set_option maxRecDepth 100000 in
set_option maxHeartbeats 4000000 in
theorem w_X8_greatest_4B {E : XE} (k4 : Int64 → Int32 → DD → Option (Int64 × DD)) (hk4 : ∀ (v1 : Int64) (v3 : Int32) (d : DD), AW E si_X8_greatest 0 0 (QM E wrL) (k4 v1 v3 d) 4 [(0, .ref 72), (1, .long v1), (3, .int v3)] [] d) (v1 : Int64) (v3 : Int32) (d : DD) : AW E si_X8_greatest 0 0 (QM E wrL) (f_X8_greatest_4B k4 v1 v3 d) 4 [(0, .ref 72), (1, .long v1), (3, .int v3)] [] d := by
  unfold f_X8_greatest_4B
  refine r_iload_n_2 dX8_greatest_4 rfl ?_
  refine r_bipush dX8_greatest_5 kb_8 ?_
  refine r_icmp_ge (tgt := 29) dX8_greatest_7 (by decide) ?_ ?_
  · refine r_lload_n_1 dX8_greatest_29 rfl ?_
    exact r_lreturn dX8_greatest_30 rfl
  · refine r_lload_n_1 dX8_greatest_10 rfl ?_
    refine r_aload_n_0 dX8_greatest_11 rfl ?_
    refine r_getr (t := 82) (cc := 8) 13 rfl rfl uX8 (by decide) rfl fw_X8_50 rfl dX8_greatest_12 ?_
    refine r_iload_n_2 dX8_greatest_15 rfl ?_
    refine r_callSNL [.long v1] (am_X9_longAt 82 rfl v3 d) cf_X9_longAt wn_X8_123 (by decide) dX8_greatest_16 rfl (Nat.le_of_ble_eq_true rfl) ⟨rfl, rfl⟩ (fun q1 => ?_)
    refine r_mxL [] mw_X8_204 (by decide) dX8_greatest_19 (Nat.le_of_ble_eq_true rfl) ⟨rfl, rfl⟩ ?_
    refine r_bdJ (fun x2 => ?_)
    refine r_lstore_n_1 dX8_greatest_22 rfl (by decide) rfl ?_
    refine r_iinc_2 dX8_greatest_23 ki_1 (by decide) rfl ?_
    refine r_goto (tgt := 4) dX8_greatest_26 (by decide) ?_
    exact hk4 x2 (v3 + (1 : Int32)) q1.2
theorem w_X8_greatest_4 {E : XE} (n : Nat) : ∀ (v1 : Int64) (v3 : Int32) (d : DD), AW E si_X8_greatest 0 0 (QM E wrL) (f_X8_greatest_4 n v1 v3 d) 4 [(0, .ref 72), (1, .long v1), (3, .int v3)] [] d := by
  induction n with
  | zero => intros; exact r_none
  | succ n ih => intro v1 v3 d; exact w_X8_greatest_4B (f_X8_greatest_4 n) ih v1 v3 d
def f_X8_greatest (d : DD) : Option (Int64 × DD) :=
  f_X8_greatest_4 FU (0 : Int64) (0 : Int32) d
set_option maxRecDepth 100000 in
set_option maxHeartbeats 4000000 in
theorem am_X8_greatest (d : DD) : AM wrL mi_X8_greatest 1 23 [.ref 72] d (f_X8_greatest d) := by
  refine AM_intro (si := si_X8_greatest) (lv := [(0, .ref 72)]) rfl (by decide +kernel) rfl (Nat.le_of_ble_eq_true rfl) (fun E => ?_)
  unfold f_X8_greatest
  refine r_lconst dX8_greatest_0 kl_0 ?_
  refine r_lstore_n_x dX8_greatest_1 rfl (by decide) rfl ?_
  refine r_iconst dX8_greatest_2 ki_0 ?_
  refine r_istore_n_x dX8_greatest_3 rfl (by decide) rfl ?_
  refine r_sub [2, 1, 0] (lv' := [(0, .ref 72), (1, .long (0 : Int64)), (3, .int (0 : Int32))]) rfl ?_
  exact w_X8_greatest_4 FU (0 : Int64) (0 : Int32) d
theorem cf_X8_greatest : CFv mi_X8_greatest 0 := ⟨iw_X8_greatest, vw_X8_greatest, nw_X8, cw_X8_greatest, by unfold plainF; decide +kernel⟩
abbrev si_X9_count : SI := (cX9_count, RX9, 2, (some .int), 2, 43)
def f_X9_count (p1 : Int32) (d : DD) : Option (Int32 × DD) :=
  if p1 = (0 : Int32) then
  some (d.1 2 0, d)
  else if p1 = (1 : Int32) then
  some (d.1 2 1, d)
  else if p1 = (2 : Int32) then
  some (d.1 12 0, d)
  else if p1 = (3 : Int32) then
  (f_X1_hoursWithTurns 2 d).bind fun q1 =>
    some (q1.1, q1.2)
  else if p1 = (4 : Int32) then
  some (d.1 0 1, d)
  else 
  some ((-1 : Int32), d)
set_option maxRecDepth 100000 in
set_option maxHeartbeats 4000000 in
theorem am_X9_count (p1 : Int32) (d : DD) : AM wrI mi_X9_count 2 43 [.ref 0, .int p1] d (f_X9_count p1 d) := by
  refine AM_intro (si := si_X9_count) (lv := [(0, .ref 0), (1, .int p1)]) rfl (by decide +kernel) rfl (Nat.le_of_ble_eq_true rfl) (fun E => ?_)
  unfold f_X9_count
  refine r_iload_n_1 dX9_count_0 rfl ?_
  refine r_if (fun q => r_tsw (tgt := 36) dX9_count_1 q (by decide) (by decide) rfl (by decide) ?_) (fun q0 => ?_)
  · refine r_aload_n_0 dX9_count_36 rfl ?_
    refine r_getr (t := 2) (cc := 9) 3 rfl rfl uX9 (by decide) rfl fw_X9_23 rfl dX9_count_37 ?_
    refine r_geti (cc := 1) 0 rfl rfl uX1 (by decide) rfl fw_X9_333 dX9_count_40 ?_
    exact r_ireturn dX9_count_43 rfl
  · refine r_if (fun q => r_tsw (tgt := 44) dX9_count_1 q (by decide) (by decide) rfl (by decide) ?_) (fun q1 => ?_)
    · refine r_aload_n_0 dX9_count_44 rfl ?_
      refine r_getr (t := 2) (cc := 9) 3 rfl rfl uX9 (by decide) rfl fw_X9_23 rfl dX9_count_45 ?_
      refine r_geti (cc := 1) 1 rfl rfl uX1 (by decide) rfl fw_X9_234 dX9_count_48 ?_
      exact r_ireturn dX9_count_51 rfl
    · refine r_if (fun q => r_tsw (tgt := 52) dX9_count_1 q (by decide) (by decide) rfl (by decide) ?_) (fun q2 => ?_)
      · refine r_aload_n_0 dX9_count_52 rfl ?_
        refine r_getr (t := 2) (cc := 9) 3 rfl rfl uX9 (by decide) rfl fw_X9_23 rfl dX9_count_53 ?_
        refine r_getr (t := 12) (cc := 1) 11 rfl rfl uX1 (by decide) rfl fw_X9_156 rfl dX9_count_56 ?_
        refine r_geti (cc := 5) 0 rfl rfl uX5 (by decide) rfl fw_X9_174 dX9_count_59 ?_
        exact r_ireturn dX9_count_62 rfl
      · refine r_if (fun q => r_tsw (tgt := 63) dX9_count_1 q (by decide) (by decide) rfl (by decide) ?_) (fun q3 => ?_)
        · refine r_aload_n_0 dX9_count_63 rfl ?_
          refine r_getr (t := 2) (cc := 9) 3 rfl rfl uX9 (by decide) rfl fw_X9_23 rfl dX9_count_64 ?_
          refine r_callVI (cc := 1) [] (am_X1_hoursWithTurns 2 rfl d) rfl rfl cf_X1_hoursWithTurns mw_X9_336 (by decide) dX9_count_67 rfl (Nat.le_of_ble_eq_true rfl) ⟨rfl, rfl⟩ (fun q1 => ?_)
          exact r_ireturn dX9_count_70 rfl
        · refine r_if (fun q => r_tsw (tgt := 71) dX9_count_1 q (by decide) (by decide) rfl (by decide) ?_) (fun q4 => ?_)
          · refine r_aload_n_0 dX9_count_71 rfl ?_
            refine r_geti (cc := 9) 1 rfl rfl uX9 (by decide) rfl fw_X9_13 dX9_count_72 ?_
            exact r_ireturn dX9_count_75 rfl
          · have tq : (p1).toInt < 0 ∨ 4 < (p1).toInt := by
              have z0 := lv_neT (a := 0) q0 (by decide)
              have z1 := lv_neT (a := 1) q1 (by decide)
              have z2 := lv_neT (a := 2) q2 (by decide)
              have z3 := lv_neT (a := 3) q3 (by decide)
              have z4 := lv_neT (a := 4) q4 (by decide)
              omega
            refine r_tswO (tgt := 76) dX9_count_1 tq (by decide) ?_
            refine r_iconst dX9_count_76 ki_m1 ?_
            exact r_ireturn dX9_count_77 rfl
theorem cf_X9_count : CFv mi_X9_count 1 := ⟨iw_X9_count, vw_X9_count, nw_X9, cw_X9_count, by unfold plainF; decide +kernel⟩
abbrev si_X9_imagePlace : SI := (cX9_imagePlace, RX9, 2, (some (.object "WindowTurns$House")), 0, 0)
def f_X9_imagePlace (p1 : Int32) (d : DD) : Option (Option Nat × DD) :=
  if p1 = 0 then
  some (some 16, d)
  else
  if p1 = (1 : Int32) then
    some (some 30, d)
    else
    some (none, d)
set_option maxRecDepth 100000 in
set_option maxHeartbeats 4000000 in
theorem am_X9_imagePlace (p1 : Int32) (d : DD) : AM wrR mi_X9_imagePlace 0 0 [.ref 0, .int p1] d (f_X9_imagePlace p1 d) := by
  refine AM_intro (si := si_X9_imagePlace) (lv := [(0, .ref 0), (1, .int p1)]) rfl (by decide +kernel) rfl (Nat.le_of_ble_eq_true rfl) (fun E => ?_)
  unfold f_X9_imagePlace
  refine r_iload_n_1 dX9_imagePlace_0 rfl ?_
  refine r_if_ne (tgt := 9) dX9_imagePlace_1 (by decide) ?_ ?_
  · refine r_iload_n_1 dX9_imagePlace_9 rfl ?_
    refine r_iconst dX9_imagePlace_10 ki_1 ?_
    refine r_icmp_ne (tgt := 21) dX9_imagePlace_11 (by decide) ?_ ?_
    · refine r_null dX9_imagePlace_21 ?_
      exact r_areturnN dX9_imagePlace_22 rfl
    · refine r_aload_n_0 dX9_imagePlace_14 rfl ?_
      refine r_getr (t := 30) (cc := 9) 5 rfl rfl uX9 (by decide) rfl fw_X9_30 rfl dX9_imagePlace_15 ?_
      refine r_goto (tgt := 22) dX9_imagePlace_18 (by decide) ?_
      exact r_areturn dX9_imagePlace_22 rfl
  · refine r_aload_n_0 dX9_imagePlace_4 rfl ?_
    refine r_getr (t := 16) (cc := 9) 4 rfl rfl uX9 (by decide) rfl fw_X9_27 rfl dX9_imagePlace_5 ?_
    exact r_areturn dX9_imagePlace_8 rfl
theorem cf_X9_imagePlace : CFv mi_X9_imagePlace 1 := ⟨iw_X9_imagePlace, vw_X9_imagePlace, nw_X9, cw_X9_imagePlace, by unfold plainF; decide +kernel⟩
abbrev si_X9_image : SI := (cX9_image, RX9, 3, (some .boolean), 3, 64)
def f_X9_image (p1 : Int32) (d : DD) : Option (Int32 × DD) :=
  (f_X9_imagePlace p1 d).bind fun q1 => match q1.1 with
  | none =>
  some ((0 : Int32), q1.2)
  | some a2 => if kd a2 = 5 then
  (f_X1_copyFrom a2 2 q1.2).bind fun q3 =>
    bd (u1 q3.2 0 6 ((q3.2.1 0 6) ||| ((1 : Int32) <<< (p1 &&& 31)))) fun d4 =>
    some ((1 : Int32), d4)
  else none
set_option maxRecDepth 100000 in
set_option maxHeartbeats 4000000 in
theorem am_X9_image (p1 : Int32) (d : DD) : AM wrI mi_X9_image 3 64 [.ref 0, .int p1] d (f_X9_image p1 d) := by
  refine AM_intro (si := si_X9_image) (lv := [(0, .ref 0), (1, .int p1)]) rfl (by decide +kernel) rfl (Nat.le_of_ble_eq_true rfl) (fun E => ?_)
  unfold f_X9_image
  refine r_aload_n_0 dX9_image_0 rfl ?_
  refine r_iload_n_1 dX9_image_1 rfl ?_
  refine r_callV (cc := 9) [] (am_X9_imagePlace p1 d) rfl rfl cf_X9_imagePlace mw_X9_329 (by decide) dX9_image_2 rfl (Nat.le_of_ble_eq_true rfl) ⟨rfl, rfl⟩ (fun q1 => r_mref ?_ (fun a2 ha2 => ?_))
  · refine r_astoreN_n [] [] [(0, .ref 0), (1, .int p1)] dX9_image_5 rfl (by decide) rfl ?_
    refine r_aloadN_n 0 dX9_image_6 rfl rfl ?_
    refine r_ifnonnullN dX9_image_7 ?_
    refine r_iconst dX9_image_10 ki_0 ?_
    exact r_zreturn dX9_image_11 rfl rfl
  · refine r_astore_n_x dX9_image_5 rfl (by decide) rfl ?_
    refine r_aload_n_0 dX9_image_6 rfl ?_
    refine r_ifnonnull (tgt := 12) dX9_image_7 (by decide) ?_
    refine r_aload_n_0 dX9_image_12 rfl ?_
    refine r_aload_n_1 dX9_image_13 rfl ?_
    refine r_getr (t := 2) (cc := 9) 3 rfl rfl uX9 (by decide) rfl fw_X9_23 rfl dX9_image_14 ?_
    refine r_callVU (cc := 1) [] (am_X1_copyFrom a2 ha2 2 rfl q1.2) ha2 rfl cf_X1_copyFrom mw_X9_100 (by decide) dX9_image_17 rfl (Nat.le_of_ble_eq_true rfl) ⟨rfl, rfl⟩ (fun q3 => ?_)
    refine r_aload_n_1 dX9_image_20 rfl ?_
    refine r_dupa dX9_image_21 ?_
    refine r_geti (cc := 9) 6 rfl rfl uX9 (by decide) rfl fw_X9_33 dX9_image_22 ?_
    refine r_iconst dX9_image_25 ki_1 ?_
    refine r_iload_n_2 dX9_image_26 rfl ?_
    refine r_ishl dX9_image_27 ?_
    refine r_ior dX9_image_28 ?_
    refine r_puti (cc := 9) 6 tyX9 tyX9_ok nmX9 rfl (by decide +kernel) rfl rfl uX9 (by decide) rfl fw_X9_33 dX9_image_29 ?_
    refine r_bd (fun d4 => ?_)
    refine r_iconst dX9_image_32 ki_1 ?_
    exact r_zreturn dX9_image_33 rfl rfl
theorem cf_X9_image : CFv mi_X9_image 1 := ⟨iw_X9_image, vw_X9_image, nw_X9, cw_X9_image, by unfold plainF; decide +kernel⟩
abbrev si_X10_has : SI := (cX10_has, RX10, 2, (some .boolean), 0, 0)
def f_X10_has (p0 : Int32) (p1 : Int32) (d : DD) : Option (Int32 × DD) :=
  if ((p0 >>> (p1 &&& 31)) &&& (1 : Int32)) = (1 : Int32) then
  some ((1 : Int32), d)
  else
  some ((0 : Int32), d)
set_option maxRecDepth 100000 in
set_option maxHeartbeats 4000000 in
theorem am_X10_has (p0 : Int32) (p1 : Int32) (d : DD) : AM wrI mi_X10_has 0 0 [.int p0, .int p1] d (f_X10_has p0 p1 d) := by
  refine AM_intro (si := si_X10_has) (lv := [(0, .int p0), (1, .int p1)]) rfl (by decide +kernel) rfl (Nat.le_of_ble_eq_true rfl) (fun E => ?_)
  unfold f_X10_has
  refine r_iload_n_0 dX10_has_0 rfl ?_
  refine r_iload_n_1 dX10_has_1 rfl ?_
  refine r_ishr dX10_has_2 ?_
  refine r_iconst dX10_has_3 ki_1 ?_
  refine r_iand dX10_has_4 ?_
  refine r_iconst dX10_has_5 ki_1 ?_
  refine r_icmp_ne (tgt := 13) dX10_has_6 (by decide) ?_ ?_
  · refine r_iconst dX10_has_13 ki_0 ?_
    exact r_zreturn dX10_has_14 rfl rfl
  · refine r_iconst dX10_has_9 ki_1 ?_
    refine r_goto (tgt := 14) dX10_has_10 (by decide) ?_
    exact r_zreturn dX10_has_14 rfl rfl
theorem cf_X10_has : CFs mi_X10_has 2 := ⟨sw_X10_has, nw_X10, cw_X10_has, by unfold plainF; decide +kernel⟩
abbrev si_X10_letting : SI := (cX10_letting, RX10, 11, (some .long), 1, 21)
def f_X10_letting_111 (k70 : Int32 → Int32 → Int32 → Int64 → Int32 → DD → Option (Int64 × DD)) (v2 : Int32) (v4 : Int32) (v7 : Int32) (v8 : Int64) (v10 : Int32) (t0 : Int32) (d : DD) : Option (Int64 × DD) :=
  if t0 = v4 then
  bd (v8 ||| ((1 : Int64) <<< (v10.toInt64 &&& 63))) fun x2 =>
    k70 v2 v4 v7 x2 (v10 + (1 : Int32)) d
  else
  k70 v2 v4 v7 v8 (v10 + (1 : Int32)) d
set_option maxRecDepth 100000 in
set_option maxHeartbeats 4000000 in
theorem w_X10_letting_111 {E : XE} (k70 : Int32 → Int32 → Int32 → Int64 → Int32 → DD → Option (Int64 × DD)) (hk70 : ∀ (v2 : Int32) (v4 : Int32) (v7 : Int32) (v8 : Int64) (v10 : Int32) (d : DD), AW E si_X10_letting 0 0 (QM E wrL) (k70 v2 v4 v7 v8 v10 d) 70 [(0, .ref 86), (2, .int v2), (4, .int v4), (7, .int v7), (8, .long v8), (10, .int v10)] [] d) (v2 : Int32) (v4 : Int32) (v7 : Int32) (v8 : Int64) (v10 : Int32) (t0 : Int32) (d : DD) : AW E si_X10_letting 0 0 (QM E wrL) (f_X10_letting_111 k70 v2 v4 v7 v8 v10 t0 d) 111 [(0, .ref 86), (2, .int v2), (4, .int v4), (7, .int v7), (8, .long v8), (10, .int v10)] [.int t0] d := by
  unfold f_X10_letting_111
  refine r_iload_w_2 dX10_letting_111 ?_
  refine r_icmp_ne (tgt := 125) dX10_letting_113 (by decide) ?_ ?_
  · refine r_iinc_5 dX10_letting_125 ki_1 (by decide) rfl ?_
    refine r_goto (tgt := 70) dX10_letting_128 (by decide) ?_
    exact hk70 v2 v4 v7 v8 (v10 + (1 : Int32)) d
  · refine r_lload_w_4 dX10_letting_116 ?_
    refine r_lconst dX10_letting_118 kl_1 ?_
    refine r_iload_w_5 dX10_letting_119 ?_
    refine r_lshl dX10_letting_121 ?_
    refine r_lor dX10_letting_122 ?_
    refine r_bdJ (fun x2 => ?_)
    refine r_lstore_w_4 dX10_letting_123 (by decide) rfl ?_
    refine r_iinc_5 dX10_letting_125 ki_1 (by decide) rfl ?_
    refine r_goto (tgt := 70) dX10_letting_128 (by decide) ?_
    exact hk70 v2 v4 v7 x2 (v10 + (1 : Int32)) d
def f_X10_letting_110 (k70 : Int32 → Int32 → Int32 → Int64 → Int32 → DD → Option (Int64 × DD)) (v2 : Int32) (v4 : Int32) (v7 : Int32) (v8 : Int64) (v10 : Int32) (d : DD) : Option (Int64 × DD) :=
  f_X10_letting_111 k70 v2 v4 v7 v8 v10 (0 : Int32) d
set_option maxRecDepth 100000 in
set_option maxHeartbeats 4000000 in
theorem w_X10_letting_110 {E : XE} (k70 : Int32 → Int32 → Int32 → Int64 → Int32 → DD → Option (Int64 × DD)) (hk70 : ∀ (v2 : Int32) (v4 : Int32) (v7 : Int32) (v8 : Int64) (v10 : Int32) (d : DD), AW E si_X10_letting 0 0 (QM E wrL) (k70 v2 v4 v7 v8 v10 d) 70 [(0, .ref 86), (2, .int v2), (4, .int v4), (7, .int v7), (8, .long v8), (10, .int v10)] [] d) (v2 : Int32) (v4 : Int32) (v7 : Int32) (v8 : Int64) (v10 : Int32) (d : DD) : AW E si_X10_letting 0 0 (QM E wrL) (f_X10_letting_110 k70 v2 v4 v7 v8 v10 d) 110 [(0, .ref 86), (2, .int v2), (4, .int v4), (7, .int v7), (8, .long v8), (10, .int v10)] [] d := by
  unfold f_X10_letting_110
  refine r_iconst dX10_letting_110 ki_0 ?_
  exact w_X10_letting_111 k70 hk70 v2 v4 v7 v8 v10 (0 : Int32) d
def f_X10_letting_70B (k70 : Int32 → Int32 → Int32 → Int64 → Int32 → DD → Option (Int64 × DD)) (v2 : Int32) (v4 : Int32) (v7 : Int32) (v8 : Int64) (v10 : Int32) (d : DD) : Option (Int64 × DD) :=
  if ixb v2 (ln 95) then
  if v10 < (d.1 95 v2.toNatClampNeg) then
    if v7 < 0 then
      f_X10_letting_110 k70 v2 v4 v7 v8 v10 d
      else
      if ixb (((36 : Int32) * v2) + v10) (ln 94) then
        (f_X10_has (d.1 94 (((36 : Int32) * v2) + v10).toNatClampNeg) v7 d).bind fun q3 =>
          if q3.1 = 0 then
          f_X10_letting_110 k70 v2 v4 v7 v8 v10 q3.2
          else
          f_X10_letting_111 k70 v2 v4 v7 v8 v10 (1 : Int32) q3.2
        else none
    else
    some (v8, d)
  else none
def f_X10_letting_70 : Nat → Int32 → Int32 → Int32 → Int64 → Int32 → DD → Option (Int64 × DD)
  | 0, _, _, _, _, _, _ => none
  | n + 1, v2, v4, v7, v8, v10, d => f_X10_letting_70B (f_X10_letting_70 n) v2 v4 v7 v8 v10 d
set_option maxRecDepth 100000 in
set_option maxHeartbeats 4000000 in
theorem w_X10_letting_70B {E : XE} (k70 : Int32 → Int32 → Int32 → Int64 → Int32 → DD → Option (Int64 × DD)) (hk70 : ∀ (v2 : Int32) (v4 : Int32) (v7 : Int32) (v8 : Int64) (v10 : Int32) (d : DD), AW E si_X10_letting 0 0 (QM E wrL) (k70 v2 v4 v7 v8 v10 d) 70 [(0, .ref 86), (2, .int v2), (4, .int v4), (7, .int v7), (8, .long v8), (10, .int v10)] [] d) (v2 : Int32) (v4 : Int32) (v7 : Int32) (v8 : Int64) (v10 : Int32) (d : DD) : AW E si_X10_letting 0 0 (QM E wrL) (f_X10_letting_70B k70 v2 v4 v7 v8 v10 d) 70 [(0, .ref 86), (2, .int v2), (4, .int v4), (7, .int v7), (8, .long v8), (10, .int v10)] [] d := by
  unfold f_X10_letting_70B
  refine r_iload_w_5 dX10_letting_70 ?_
  refine r_aload_n_0 dX10_letting_72 rfl ?_
  refine r_getr (t := 95) (cc := 10) 22 rfl rfl uX10 (by decide) rfl fw_X10_64 rfl dX10_letting_73 ?_
  refine r_iload_n_1 dX10_letting_76 rfl ?_
  refine r_iaload rfl dX10_letting_77 ?_
  refine r_icmp_ge (tgt := 131) dX10_letting_78 (by decide) ?_ ?_
  · refine r_lload_w_4 dX10_letting_131 ?_
    exact r_lreturn dX10_letting_133 rfl
  · refine r_iload_w_3 dX10_letting_81 ?_
    refine r_if_lt (tgt := 110) dX10_letting_83 (by decide) ?_ ?_
    · exact w_X10_letting_110 k70 hk70 v2 v4 v7 v8 v10 d
    · refine r_aload_n_0 dX10_letting_86 rfl ?_
      refine r_getr (t := 94) (cc := 10) 21 rfl rfl uX10 (by decide) rfl fw_X10_61 rfl dX10_letting_87 ?_
      refine r_bipush dX10_letting_90 kb_36 ?_
      refine r_iload_n_1 dX10_letting_92 rfl ?_
      refine r_imul dX10_letting_93 ?_
      refine r_iload_w_5 dX10_letting_94 ?_
      refine r_iadd dX10_letting_96 ?_
      refine r_iaload rfl dX10_letting_97 ?_
      refine r_iload_w_3 dX10_letting_98 ?_
      refine r_callSI [] (am_X10_has (d.1 94 (((36 : Int32) * v2) + v10).toNatClampNeg) v7 d) cf_X10_has mw_X10_213 (by decide) dX10_letting_100 rfl (Nat.le_of_ble_eq_true rfl) ⟨rfl, rfl⟩ (fun q3 => ?_)
      refine r_if_eq (tgt := 110) dX10_letting_103 (by decide) ?_ ?_
      · exact w_X10_letting_110 k70 hk70 v2 v4 v7 v8 v10 q3.2
      · refine r_iconst dX10_letting_106 ki_1 ?_
        refine r_goto (tgt := 111) dX10_letting_107 (by decide) ?_
        exact w_X10_letting_111 k70 hk70 v2 v4 v7 v8 v10 (1 : Int32) q3.2
theorem w_X10_letting_70 {E : XE} (n : Nat) : ∀ (v2 : Int32) (v4 : Int32) (v7 : Int32) (v8 : Int64) (v10 : Int32) (d : DD), AW E si_X10_letting 0 0 (QM E wrL) (f_X10_letting_70 n v2 v4 v7 v8 v10 d) 70 [(0, .ref 86), (2, .int v2), (4, .int v4), (7, .int v7), (8, .long v8), (10, .int v10)] [] d := by
  induction n with
  | zero => intros; exact r_none
  | succ n ih => intro v2 v4 v7 v8 v10 d; exact w_X10_letting_70B (f_X10_letting_70 n) ih v2 v4 v7 v8 v10 d
def f_X10_letting_50 (v1 : Int32) (v2 : Int32) (v3 : Int32) (v4 : Int32) (d : DD) : Option (Int64 × DD) :=
  if v1 = (1 : Int32) then
  bd (v3 - (1 : Int32)) fun x4 =>
    f_X10_letting_70 FU v2 v4 x4 (0 : Int64) (0 : Int32) d
  else
  f_X10_letting_70 FU v2 v4 v3 (0 : Int64) (0 : Int32) d
set_option maxRecDepth 100000 in
set_option maxHeartbeats 4000000 in
theorem w_X10_letting_50 {E : XE} (v1 : Int32) (v2 : Int32) (v3 : Int32) (v4 : Int32) (d : DD) : AW E si_X10_letting 0 0 (QM E wrL) (f_X10_letting_50 v1 v2 v3 v4 d) 50 [(0, .ref 86), (1, .int v1), (2, .int v2), (3, .int v3), (4, .int v4)] [] d := by
  unfold f_X10_letting_50
  refine r_iload_n_1 dX10_letting_50 rfl ?_
  refine r_iconst dX10_letting_51 ki_1 ?_
  refine r_icmp_ne (tgt := 61) dX10_letting_52 (by decide) ?_ ?_
  · refine r_iload_n_3 dX10_letting_61 rfl ?_
    refine r_istore_w_x dX10_letting_62 (by decide) rfl ?_
    refine r_lconst dX10_letting_64 kl_0 ?_
    refine r_lstore_w_x dX10_letting_65 (by decide) rfl ?_
    refine r_iconst dX10_letting_67 ki_0 ?_
    refine r_istore_w_x dX10_letting_68 (by decide) rfl ?_
    refine r_sub [3, 5, 7, 2, 1, 0] (lv' := [(0, .ref 86), (2, .int v2), (4, .int v4), (7, .int v3), (8, .long (0 : Int64)), (10, .int (0 : Int32))]) rfl ?_
    exact w_X10_letting_70 FU v2 v4 v3 (0 : Int64) (0 : Int32) d
  · refine r_iload_n_3 dX10_letting_55 rfl ?_
    refine r_iconst dX10_letting_56 ki_1 ?_
    refine r_isub dX10_letting_57 ?_
    refine r_goto (tgt := 62) dX10_letting_58 (by decide) ?_
    refine r_bdI (fun x4 => ?_)
    refine r_istore_w_x dX10_letting_62 (by decide) rfl ?_
    refine r_lconst dX10_letting_64 kl_0 ?_
    refine r_lstore_w_x dX10_letting_65 (by decide) rfl ?_
    refine r_iconst dX10_letting_67 ki_0 ?_
    refine r_istore_w_x dX10_letting_68 (by decide) rfl ?_
    refine r_sub [3, 5, 7, 2, 1, 0] (lv' := [(0, .ref 86), (2, .int v2), (4, .int v4), (7, .int x4), (8, .long (0 : Int64)), (10, .int (0 : Int32))]) rfl ?_
    exact w_X10_letting_70 FU v2 v4 x4 (0 : Int64) (0 : Int32) d
def f_X10_letting_40 (v5 : Int64) (t0 : Int32) (t1 : Int32) (d : DD) : Option (Int64 × DD) :=
  if t1 = t0 then
  some (v5, d)
  else
  some ((0 : Int64), d)
set_option maxRecDepth 100000 in
set_option maxHeartbeats 4000000 in
theorem w_X10_letting_40 {E : XE} (v5 : Int64) (t0 : Int32) (t1 : Int32) (d : DD) : AW E si_X10_letting 0 0 (QM E wrL) (f_X10_letting_40 v5 t0 t1 d) 40 [(5, .long v5)] [.int t0, .int t1] d := by
  unfold f_X10_letting_40
  refine r_icmp_ne (tgt := 48) dX10_letting_40 (by decide) ?_ ?_
  · refine r_lconst dX10_letting_48 kl_0 ?_
    exact r_lreturn dX10_letting_49 rfl
  · refine r_lload_w_0 dX10_letting_43 ?_
    refine r_goto (tgt := 49) dX10_letting_45 (by decide) ?_
    exact r_lreturn dX10_letting_49 rfl
def f_X10_letting (p1 : Int32) (p2 : Int32) (p3 : Int32) (p4 : Int32) (d : DD) : Option (Int64 × DD) :=
  if ixb p2 (ln 95) then
  bd (((1 : Int64) <<< ((d.1 95 p2.toNatClampNeg).toInt64 &&& 63)) - (1 : Int64)) fun x1 =>
    if (1 : Int32) < p1 then
    if ((p1 - (2 : Int32)) / (2 : Int32)) = p2 then
      if (p1 - p1 / (2 : Int32) * (2 : Int32)) = (1 : Int32) then
        f_X10_letting_40 x1 (1 : Int32) p4 d
        else
        f_X10_letting_40 x1 (0 : Int32) p4 d
      else
      f_X10_letting_50 p1 p2 p3 p4 d
    else
    f_X10_letting_50 p1 p2 p3 p4 d
  else none
set_option maxRecDepth 100000 in
set_option maxHeartbeats 4000000 in
theorem am_X10_letting (p1 : Int32) (p2 : Int32) (p3 : Int32) (p4 : Int32) (d : DD) : AM wrL mi_X10_letting 1 21 [.ref 86, .int p1, .int p2, .int p3, .int p4] d (f_X10_letting p1 p2 p3 p4 d) := by
  refine AM_intro (si := si_X10_letting) (lv := [(0, .ref 86), (1, .int p1), (2, .int p2), (3, .int p3), (4, .int p4)]) rfl (by decide +kernel) rfl (Nat.le_of_ble_eq_true rfl) (fun E => ?_)
  unfold f_X10_letting
  refine r_lconst dX10_letting_0 kl_1 ?_
  refine r_aload_n_0 dX10_letting_1 rfl ?_
  refine r_getr (t := 95) (cc := 10) 22 rfl rfl uX10 (by decide) rfl fw_X10_64 rfl dX10_letting_2 ?_
  refine r_iload_n_2 dX10_letting_5 rfl ?_
  refine r_iaload rfl dX10_letting_6 ?_
  refine r_lshl dX10_letting_7 ?_
  refine r_lconst dX10_letting_8 kl_1 ?_
  refine r_lsub dX10_letting_9 ?_
  refine r_bdJ (fun x1 => ?_)
  refine r_lstore_w_x dX10_letting_10 (by decide) rfl ?_
  refine r_iload_n_2 dX10_letting_12 rfl ?_
  refine r_iconst dX10_letting_13 ki_1 ?_
  refine r_icmp_le (tgt := 50) dX10_letting_14 (by decide) ?_ ?_
  · refine r_sub [1, 2, 3, 4, 5] (lv' := [(0, .ref 86), (1, .int p1), (2, .int p2), (3, .int p3), (4, .int p4)]) rfl ?_
    exact w_X10_letting_50 p1 p2 p3 p4 d
  · refine r_iload_n_2 dX10_letting_17 rfl ?_
    refine r_iconst dX10_letting_18 ki_2 ?_
    refine r_isub dX10_letting_19 ?_
    refine r_iconst dX10_letting_20 ki_2 ?_
    refine r_idiv dX10_letting_21 (by decide) ?_
    refine r_iload_n_3 dX10_letting_22 rfl ?_
    refine r_icmp_ne (tgt := 50) dX10_letting_23 (by decide) ?_ ?_
    · refine r_sub [1, 2, 3, 4, 5] (lv' := [(0, .ref 86), (1, .int p1), (2, .int p2), (3, .int p3), (4, .int p4)]) rfl ?_
      exact w_X10_letting_50 p1 p2 p3 p4 d
    · refine r_iload_w_5 dX10_letting_26 ?_
      refine r_iload_n_2 dX10_letting_28 rfl ?_
      refine r_iconst dX10_letting_29 ki_2 ?_
      refine r_irem dX10_letting_30 (by decide) ?_
      refine r_iconst dX10_letting_31 ki_1 ?_
      refine r_icmp_ne (tgt := 39) dX10_letting_32 (by decide) ?_ ?_
      · refine r_iconst dX10_letting_39 ki_0 ?_
        refine r_sub [0] (lv' := [(5, .long x1)]) rfl ?_
        exact w_X10_letting_40 x1 (0 : Int32) p4 d
      · refine r_iconst dX10_letting_35 ki_1 ?_
        refine r_goto (tgt := 40) dX10_letting_36 (by decide) ?_
        refine r_sub [0] (lv' := [(5, .long x1)]) rfl ?_
        exact w_X10_letting_40 x1 (1 : Int32) p4 d
theorem cf_X10_letting : CFv mi_X10_letting 4 := ⟨iw_X10_letting, vw_X10_letting, nw_X10, cw_X10_letting, by unfold plainF; decide +kernel⟩
abbrev si_X10_four : SI := (cX10_four, RX10, 3, none, 0, 0)
def f_X10_four_3B (k3 : Int32 → Int32 → DD → Option (Unit × DD)) (v1 : Int32) (v2 : Int32) (d : DD) : Option (Unit × DD) :=
  if v2 < 0 then
  some ((), d)
  else
  if ixb (d.1 86 2) (ln 87) then
    bd (u1 d 87 (d.1 86 2).toNatClampNeg (vp_nar .byte ((v1 >>> (v2 &&& 31)).toInt8.toInt32))) fun d1 =>
    bd (u1 d1 86 2 ((d1.1 86 2) + (1 : Int32))) fun d2 =>
      k3 v1 (v2 + (-8 : Int32)) d2
    else none
def f_X10_four_3 : Nat → Int32 → Int32 → DD → Option (Unit × DD)
  | 0, _, _, _ => none
  | n + 1, v1, v2, d => f_X10_four_3B (f_X10_four_3 n) v1 v2 d
set_option maxRecDepth 100000 in
set_option maxHeartbeats 4000000 in
theorem w_X10_four_3B {E : XE} (k3 : Int32 → Int32 → DD → Option (Unit × DD)) (hk3 : ∀ (v1 : Int32) (v2 : Int32) (d : DD), AW E si_X10_four 0 0 (QM E wrU) (k3 v1 v2 d) 3 [(0, .ref 86), (1, .int v1), (2, .int v2)] [] d) (v1 : Int32) (v2 : Int32) (d : DD) : AW E si_X10_four 0 0 (QM E wrU) (f_X10_four_3B k3 v1 v2 d) 3 [(0, .ref 86), (1, .int v1), (2, .int v2)] [] d := by
  unfold f_X10_four_3B
  refine r_iload_n_2 dX10_four_3 rfl ?_
  refine r_if_lt (tgt := 36) dX10_four_4 (by decide) ?_ ?_
  · exact r_return dX10_four_36 rfl
  · refine r_aload_n_0 dX10_four_7 rfl ?_
    refine r_getr (t := 87) (cc := 10) 1 rfl rfl uX10 (by decide) rfl fw_X10_14 rfl dX10_four_8 ?_
    refine r_aload_n_0 dX10_four_11 rfl ?_
    refine r_geti (cc := 10) 2 rfl rfl uX10 (by decide) rfl fw_X10_7 dX10_four_12 ?_
    refine r_iload_n_1 dX10_four_15 rfl ?_
    refine r_iload_n_2 dX10_four_16 rfl ?_
    refine r_ishr dX10_four_17 ?_
    refine r_i2b dX10_four_18 ?_
    refine r_bastore rfl dX10_four_19 ?_
    refine r_bd (fun d1 => ?_)
    refine r_aload_n_0 dX10_four_20 rfl ?_
    refine r_dupa dX10_four_21 ?_
    refine r_geti (cc := 10) 2 rfl rfl uX10 (by decide) rfl fw_X10_7 dX10_four_22 ?_
    refine r_iconst dX10_four_25 ki_1 ?_
    refine r_iadd dX10_four_26 ?_
    refine r_puti (cc := 10) 2 tyX10 tyX10_ok nmX10 rfl (by decide +kernel) rfl rfl uX10 (by decide) rfl fw_X10_7 dX10_four_27 ?_
    refine r_bd (fun d2 => ?_)
    refine r_iinc_2 dX10_four_30 ki_m8 (by decide) rfl ?_
    refine r_goto (tgt := 3) dX10_four_33 (by decide) ?_
    exact hk3 v1 (v2 + (-8 : Int32)) d2
theorem w_X10_four_3 {E : XE} (n : Nat) : ∀ (v1 : Int32) (v2 : Int32) (d : DD), AW E si_X10_four 0 0 (QM E wrU) (f_X10_four_3 n v1 v2 d) 3 [(0, .ref 86), (1, .int v1), (2, .int v2)] [] d := by
  induction n with
  | zero => intros; exact r_none
  | succ n ih => intro v1 v2 d; exact w_X10_four_3B (f_X10_four_3 n) ih v1 v2 d
def f_X10_four (p1 : Int32) (d : DD) : Option (Unit × DD) :=
  f_X10_four_3 FU p1 (24 : Int32) d
set_option maxRecDepth 100000 in
set_option maxHeartbeats 4000000 in
theorem am_X10_four (p1 : Int32) (d : DD) : AM wrU mi_X10_four 0 0 [.ref 86, .int p1] d (f_X10_four p1 d) := by
  refine AM_intro (si := si_X10_four) (lv := [(0, .ref 86), (1, .int p1)]) rfl (by decide +kernel) rfl (Nat.le_of_ble_eq_true rfl) (fun E => ?_)
  unfold f_X10_four
  refine r_bipush dX10_four_0 kb_24 ?_
  refine r_istore_n_x dX10_four_2 rfl (by decide) rfl ?_
  refine r_sub [1, 2, 0] (lv' := [(0, .ref 86), (1, .int p1), (2, .int (24 : Int32))]) rfl ?_
  exact w_X10_four_3 FU p1 (24 : Int32) d
theorem cf_X10_four : CFv mi_X10_four 1 := ⟨iw_X10_four, vw_X10_four, nw_X10, cw_X10_four, by unfold plainF; decide +kernel⟩
abbrev si_X10_feed : SI := (cX10_feed, RX10, 6, (some .int), 1, 22)
def f_X10_feed (p1 : Int32) (p2 : Int32) (p3 : Int32) (p4 : Int32) (p5 : Int32) (d : DD) : Option (Int32 × DD) :=
  bd (u1 d 86 0 (0 : Int32)) fun d1 =>
  if (940 : Int32) < ((d1.1 86 2) + (20 : Int32)) then
  some ((-1 : Int32), d1)
  else
  (f_X10_four p1 d1).bind fun q2 =>
    (f_X10_four p2 q2.2).bind fun q3 =>
    (f_X10_four p3 q3.2).bind fun q4 =>
    (f_X10_four p4 q4.2).bind fun q5 =>
    (f_X10_four p5 q5.2).bind fun q6 =>
    some (q6.2.1 86 2, q6.2)
set_option maxRecDepth 100000 in
set_option maxHeartbeats 4000000 in
theorem am_X10_feed (p1 : Int32) (p2 : Int32) (p3 : Int32) (p4 : Int32) (p5 : Int32) (d : DD) : AM wrI mi_X10_feed 1 22 [.ref 86, .int p1, .int p2, .int p3, .int p4, .int p5] d (f_X10_feed p1 p2 p3 p4 p5 d) := by
  refine AM_intro (si := si_X10_feed) (lv := [(0, .ref 86), (1, .int p1), (2, .int p2), (3, .int p3), (4, .int p4), (5, .int p5)]) rfl (by decide +kernel) rfl (Nat.le_of_ble_eq_true rfl) (fun E => ?_)
  unfold f_X10_feed
  refine r_aload_n_0 dX10_feed_0 rfl ?_
  refine r_iconst dX10_feed_1 ki_0 ?_
  refine r_puti (cc := 10) 0 tyX10 tyX10_ok nmX10 rfl (by decide +kernel) rfl rfl uX10 (by decide) rfl fw_X10_1 dX10_feed_2 ?_
  refine r_bd (fun d1 => ?_)
  refine r_aload_n_0 dX10_feed_5 rfl ?_
  refine r_geti (cc := 10) 2 rfl rfl uX10 (by decide) rfl fw_X10_7 dX10_feed_6 ?_
  refine r_bipush dX10_feed_9 kb_20 ?_
  refine r_iadd dX10_feed_11 ?_
  refine r_sipush dX10_feed_12 ks_940 ?_
  refine r_icmp_le (tgt := 20) dX10_feed_15 (by decide) ?_ ?_
  · refine r_aload_n_0 dX10_feed_20 rfl ?_
    refine r_iload_n_1 dX10_feed_21 rfl ?_
    refine r_callVU (cc := 10) [] (am_X10_four p1 d1) rfl rfl cf_X10_four mw_X10_10 (by decide) dX10_feed_22 rfl (Nat.le_of_ble_eq_true rfl) ⟨rfl, rfl⟩ (fun q2 => ?_)
    refine r_aload_n_0 dX10_feed_25 rfl ?_
    refine r_iload_n_2 dX10_feed_26 rfl ?_
    refine r_callVU (cc := 10) [] (am_X10_four p2 q2.2) rfl rfl cf_X10_four mw_X10_10 (by decide) dX10_feed_27 rfl (Nat.le_of_ble_eq_true rfl) ⟨rfl, rfl⟩ (fun q3 => ?_)
    refine r_aload_n_0 dX10_feed_30 rfl ?_
    refine r_iload_n_3 dX10_feed_31 rfl ?_
    refine r_callVU (cc := 10) [] (am_X10_four p3 q3.2) rfl rfl cf_X10_four mw_X10_10 (by decide) dX10_feed_32 rfl (Nat.le_of_ble_eq_true rfl) ⟨rfl, rfl⟩ (fun q4 => ?_)
    refine r_aload_n_0 dX10_feed_35 rfl ?_
    refine r_iload_w_4 dX10_feed_36 ?_
    refine r_callVU (cc := 10) [] (am_X10_four p4 q4.2) rfl rfl cf_X10_four mw_X10_10 (by decide) dX10_feed_38 rfl (Nat.le_of_ble_eq_true rfl) ⟨rfl, rfl⟩ (fun q5 => ?_)
    refine r_aload_n_0 dX10_feed_41 rfl ?_
    refine r_iload_w_5 dX10_feed_42 ?_
    refine r_callVU (cc := 10) [] (am_X10_four p5 q5.2) rfl rfl cf_X10_four mw_X10_10 (by decide) dX10_feed_44 rfl (Nat.le_of_ble_eq_true rfl) ⟨rfl, rfl⟩ (fun q6 => ?_)
    refine r_aload_n_0 dX10_feed_47 rfl ?_
    refine r_geti (cc := 10) 2 rfl rfl uX10 (by decide) rfl fw_X10_7 dX10_feed_48 ?_
    exact r_ireturn dX10_feed_51 rfl
  · refine r_iconst dX10_feed_18 ki_m1 ?_
    exact r_ireturn dX10_feed_19 rfl
theorem cf_X10_feed : CFv mi_X10_feed 5 := ⟨iw_X10_feed, vw_X10_feed, nw_X10, cw_X10_feed, by unfold plainF; decide +kernel⟩
