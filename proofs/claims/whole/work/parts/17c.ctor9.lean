def w_X9 (G : XG) (f : Nat → Nat) : va_W := [(f 0, .inr (9, [.ref (f 1), .int (0), .int (0), .ref (f 2), .ref (f 16), .ref (f 30), .int (0), .ref (f 44), .ref (f 49), .ref (f 65), .ref (f 70), .ref (f 72), .ref (f 83)])), (f 1, .inl (G.2.1.1, 940, .inl fun _ => 0))] ++ w_X1 G (fun k => f (2 + k)) ++ w_X1 G (fun k => f (16 + k)) ++ w_X1 G (fun k => f (30 + k)) ++ w_X0 G (fun k => f (44 + k)) ++ w_X2 G (fun k => f (49 + k)) (f 44) ++ w_X6 G (fun k => f (65 + k)) (f 44) ++ w_X3 G (fun k => f (70 + k)) (f 44) ++ w_X8 G (fun k => f (72 + k)) (f 2) ++ w_X4 G (fun k => f (83 + k))
abbrev si_X9_init : SI := (cX9_init, RX9, 1, none, 4, 73)
set_option maxRecDepth 100000 in
set_option maxHeartbeats 8000000 in
theorem ac_X9 : AC mi_X9_init 4 73 85 8609 9 [.null, .int 0, .int 0, .null, .null, .null, .int 0, .null, .null, .null, .null, .null, .null] [] (fun G q w => ∃ f : Nat → Nat, f 0 = q ∧ w = w_X9 G f) := by
  refine AC_intro (si := si_X9_init) rfl (by decide +kernel) rfl (Nat.le_of_ble_eq_true rfl) (fun E q hI hRC => ?_)
  refine q_aload 0 dX9_init_0 rfl rfl ?_
  refine q_objInit ow_9 ow_i ow_c dX9_init_1 (by decide) ?_
  refine q_aload 0 dX9_init_4 rfl rfl ?_
  refine q_sipush dX9_init_5 ks2_940 ?_
  refine n_newa (k := 940) (t0 := 0) (ty := .int) (a0 := (940, .inl fun _ => 0)) rfl (fun _ h => by cases h) rfl dX9_init_8 aw_int (by decide) rfl (RC_mono hRC (Nat.le_of_ble_eq_true rfl) (Nat.le_of_ble_eq_true rfl)) (by decide) (fun _ => rfl) (fun q1 => ?_)
  refine n_putF (ci := 9) (fty := tyX9 0) [.ref q1, .int 0, .int 0, .null, .null, .null, .int 0, .null, .null, .null, .null, .null, .null] 0 hI rfl uX9 tyX9 tyX9_ok nmX9 (by decide) fw_X9_9 rfl rfl (tyX9_ok 0 (by decide)) rfl rfl (Nat.le_of_ble_eq_true rfl) rfl dX9_init_10 ?_
  refine q_aload 0 dX9_init_13 rfl rfl ?_
  refine q_iconst dX9_init_14 ki2_0 ?_
  refine n_put (ci := 9) (fty := tyX9 1) [.ref q1, .int (0), .int 0, .null, .null, .null, .int 0, .null, .null, .null, .null, .null, .null] 1 rfl uX9 tyX9 tyX9_ok nmX9 (by decide) fw_X9_13 rfl (tyX9_ok 1 (by decide)) rfl rfl (Nat.le_of_ble_eq_true rfl) rfl dX9_init_15 ?_
  refine q_aload 0 dX9_init_18 rfl rfl ?_
  refine q_iconst dX9_init_19 ki2_0 ?_
  refine n_put (ci := 9) (fty := tyX9 2) [.ref q1, .int (0), .int (0), .null, .null, .null, .int 0, .null, .null, .null, .null, .null, .null] 2 rfl uX9 tyX9 tyX9_ok nmX9 (by decide) fw_X9_17 rfl (tyX9_ok 2 (by decide)) rfl rfl (Nat.le_of_ble_eq_true rfl) rfl dX9_init_20 ?_
  refine q_aload 0 dX9_init_23 rfl rfl ?_
  refine n_new (ci := 1) [.int 0, .int 0, .null, .null, .null, .null, .null, .null, .null, .null, .null, .null] rfl uX1 tyX1 tyX1_ok dv_1 clw_X9_20 iw_1 nw_X1 (RC_mono hRC (Nat.le_of_ble_eq_true rfl) (Nat.le_of_ble_eq_true rfl)) dX9_init_24 (fun q2 => ?_)
  refine q_dup dX9_init_27 ?_
  refine n_callI (st := [.ref q2, .ref q]) (ac_X1) rfl rfl mw_X9_22 iw_X1_init nw_X1 cw_X1_init (show plainF mi_X1_init 0 from by unfold plainF; decide +kernel) (by decide) (RC_mono hRC (Nat.le_of_ble_eq_true rfl) (Nat.le_of_ble_eq_true rfl)) dX9_init_28 rfl (Nat.le_of_ble_eq_true rfl) (fun w1 hw1 => ?_)
  obtain ⟨f2, hf2, rfl⟩ := hw1
  subst hf2
  refine n_putF (ci := 9) (fty := tyX9 3) [.ref q1, .int (0), .int (0), .ref (f2 0), .null, .null, .int 0, .null, .null, .null, .null, .null, .null] 3 hI rfl uX9 tyX9 tyX9_ok nmX9 (by decide) fw_X9_23 rfl rfl (tyX9_ok 3 (by decide)) rfl rfl (Nat.le_of_ble_eq_true rfl) rfl dX9_init_31 ?_
  refine q_aload 0 dX9_init_34 rfl rfl ?_
  refine n_new (ci := 1) [.int 0, .int 0, .null, .null, .null, .null, .null, .null, .null, .null, .null, .null] rfl uX1 tyX1 tyX1_ok dv_1 clw_X9_20 iw_1 nw_X1 (RC_mono hRC (Nat.le_of_ble_eq_true rfl) (Nat.le_of_ble_eq_true rfl)) dX9_init_35 (fun q3 => ?_)
  refine q_dup dX9_init_38 ?_
  refine n_callI (st := [.ref q3, .ref q]) (ac_X1) rfl rfl mw_X9_22 iw_X1_init nw_X1 cw_X1_init (show plainF mi_X1_init 0 from by unfold plainF; decide +kernel) (by decide) (RC_mono hRC (Nat.le_of_ble_eq_true rfl) (Nat.le_of_ble_eq_true rfl)) dX9_init_39 rfl (Nat.le_of_ble_eq_true rfl) (fun w1 hw1 => ?_)
  obtain ⟨f3, hf3, rfl⟩ := hw1
  subst hf3
  refine n_putF (ci := 9) (fty := tyX9 4) [.ref q1, .int (0), .int (0), .ref (f2 0), .ref (f3 0), .null, .int 0, .null, .null, .null, .null, .null, .null] 4 hI rfl uX9 tyX9 tyX9_ok nmX9 (by decide) fw_X9_27 rfl rfl (tyX9_ok 4 (by decide)) rfl rfl (Nat.le_of_ble_eq_true rfl) rfl dX9_init_42 ?_
  refine q_aload 0 dX9_init_45 rfl rfl ?_
  refine n_new (ci := 1) [.int 0, .int 0, .null, .null, .null, .null, .null, .null, .null, .null, .null, .null] rfl uX1 tyX1 tyX1_ok dv_1 clw_X9_20 iw_1 nw_X1 (RC_mono hRC (Nat.le_of_ble_eq_true rfl) (Nat.le_of_ble_eq_true rfl)) dX9_init_46 (fun q4 => ?_)
  refine q_dup dX9_init_49 ?_
  refine n_callI (st := [.ref q4, .ref q]) (ac_X1) rfl rfl mw_X9_22 iw_X1_init nw_X1 cw_X1_init (show plainF mi_X1_init 0 from by unfold plainF; decide +kernel) (by decide) (RC_mono hRC (Nat.le_of_ble_eq_true rfl) (Nat.le_of_ble_eq_true rfl)) dX9_init_50 rfl (Nat.le_of_ble_eq_true rfl) (fun w1 hw1 => ?_)
  obtain ⟨f4, hf4, rfl⟩ := hw1
  subst hf4
  refine n_putF (ci := 9) (fty := tyX9 5) [.ref q1, .int (0), .int (0), .ref (f2 0), .ref (f3 0), .ref (f4 0), .int 0, .null, .null, .null, .null, .null, .null] 5 hI rfl uX9 tyX9 tyX9_ok nmX9 (by decide) fw_X9_30 rfl rfl (tyX9_ok 5 (by decide)) rfl rfl (Nat.le_of_ble_eq_true rfl) rfl dX9_init_53 ?_
  refine q_aload 0 dX9_init_56 rfl rfl ?_
  refine q_iconst dX9_init_57 ki2_0 ?_
  refine n_put (ci := 9) (fty := tyX9 6) [.ref q1, .int (0), .int (0), .ref (f2 0), .ref (f3 0), .ref (f4 0), .int (0), .null, .null, .null, .null, .null, .null] 6 rfl uX9 tyX9 tyX9_ok nmX9 (by decide) fw_X9_33 rfl (tyX9_ok 6 (by decide)) rfl rfl (Nat.le_of_ble_eq_true rfl) rfl dX9_init_58 ?_
  refine q_aload 0 dX9_init_61 rfl rfl ?_
  refine n_new (ci := 0) [.null, .int 0, .int 0, .int 0] rfl uX0 tyX0 tyX0_ok dv_0 clw_X9_36 iw_0 nw_X0 (RC_mono hRC (Nat.le_of_ble_eq_true rfl) (Nat.le_of_ble_eq_true rfl)) dX9_init_62 (fun q5 => ?_)
  refine q_dup dX9_init_65 ?_
  refine n_callIN (st := [.ref q5, .ref q]) (ac_X0) rfl rfl wn_X9_38 iw_X0_init nw_X0 cw_X0_init (show plainF mi_X0_init 0 from by unfold plainF; decide +kernel) (by decide) (RC_mono hRC (Nat.le_of_ble_eq_true rfl) (Nat.le_of_ble_eq_true rfl)) dX9_init_66 rfl (Nat.le_of_ble_eq_true rfl) (fun w1 hw1 => ?_)
  obtain ⟨f5, hf5, rfl⟩ := hw1
  subst hf5
  refine n_putF (ci := 9) (fty := tyX9 7) [.ref q1, .int (0), .int (0), .ref (f2 0), .ref (f3 0), .ref (f4 0), .int (0), .ref (f5 0), .null, .null, .null, .null, .null] 7 hI rfl uX9 tyX9 tyX9_ok nmX9 (by decide) fw_X9_39 rfl rfl (tyX9_ok 7 (by decide)) rfl rfl (Nat.le_of_ble_eq_true rfl) rfl dX9_init_69 ?_
  refine q_aload 0 dX9_init_72 rfl rfl ?_
  refine n_new (ci := 2) [.null, .null, .null] rfl uX2 tyX2 tyX2_ok dv_2 clw_X9_43 iw_2 nw_X2 (RC_mono hRC (Nat.le_of_ble_eq_true rfl) (Nat.le_of_ble_eq_true rfl)) dX9_init_73 (fun q6 => ?_)
  refine q_dup dX9_init_76 ?_
  refine q_aload 0 dX9_init_77 rfl rfl ?_
  refine n_get (ci := 9) (v := .ref (f5 0)) 7 rfl uX9 (by decide) fw_X9_39 rfl dX9_init_78 ?_
  refine n_callI (st := [.ref q6, .ref q]) (ac_X2 (f5 0)) rfl rfl mw_X9_45 iw_X2_init nw_X2 cw_X2_init (show plainF mi_X2_init 1 from by unfold plainF; decide +kernel) (by decide) (RC_mono hRC (Nat.le_of_ble_eq_true rfl) (Nat.le_of_ble_eq_true rfl)) dX9_init_81 rfl (Nat.le_of_ble_eq_true rfl) (fun w1 hw1 => ?_)
  obtain ⟨f6, hf6, rfl⟩ := hw1
  subst hf6
  refine n_putF (ci := 9) (fty := tyX9 8) [.ref q1, .int (0), .int (0), .ref (f2 0), .ref (f3 0), .ref (f4 0), .int (0), .ref (f5 0), .ref (f6 0), .null, .null, .null, .null] 8 hI rfl uX9 tyX9 tyX9_ok nmX9 (by decide) fw_X9_48 rfl rfl (tyX9_ok 8 (by decide)) rfl rfl (Nat.le_of_ble_eq_true rfl) rfl dX9_init_84 ?_
  refine q_aload 0 dX9_init_87 rfl rfl ?_
  refine n_new (ci := 6) [.null, .null] rfl uX6 tyX6 tyX6_ok dv_6 clw_X9_52 iw_6 nw_X6 (RC_mono hRC (Nat.le_of_ble_eq_true rfl) (Nat.le_of_ble_eq_true rfl)) dX9_init_88 (fun q7 => ?_)
  refine q_dup dX9_init_91 ?_
  refine q_aload 0 dX9_init_92 rfl rfl ?_
  refine n_get (ci := 9) (v := .ref (f5 0)) 7 rfl uX9 (by decide) fw_X9_39 rfl dX9_init_93 ?_
  refine n_callI (st := [.ref q7, .ref q]) (ac_X6 (f5 0)) rfl rfl mw_X9_54 iw_X6_init nw_X6 cw_X6_init (show plainF mi_X6_init 1 from by unfold plainF; decide +kernel) (by decide) (RC_mono hRC (Nat.le_of_ble_eq_true rfl) (Nat.le_of_ble_eq_true rfl)) dX9_init_96 rfl (Nat.le_of_ble_eq_true rfl) (fun w1 hw1 => ?_)
  obtain ⟨f7, hf7, rfl⟩ := hw1
  subst hf7
  refine n_putF (ci := 9) (fty := tyX9 9) [.ref q1, .int (0), .int (0), .ref (f2 0), .ref (f3 0), .ref (f4 0), .int (0), .ref (f5 0), .ref (f6 0), .ref (f7 0), .null, .null, .null] 9 hI rfl uX9 tyX9 tyX9_ok nmX9 (by decide) fw_X9_55 rfl rfl (tyX9_ok 9 (by decide)) rfl rfl (Nat.le_of_ble_eq_true rfl) rfl dX9_init_99 ?_
  refine q_aload 0 dX9_init_102 rfl rfl ?_
  refine n_new (ci := 3) [.null, .null] rfl uX3 tyX3 tyX3_ok dv_3 clw_X9_59 iw_3 nw_X3 (RC_mono hRC (Nat.le_of_ble_eq_true rfl) (Nat.le_of_ble_eq_true rfl)) dX9_init_103 (fun q8 => ?_)
  refine q_dup dX9_init_106 ?_
  refine q_aload 0 dX9_init_107 rfl rfl ?_
  refine n_get (ci := 9) (v := .ref (f5 0)) 7 rfl uX9 (by decide) fw_X9_39 rfl dX9_init_108 ?_
  refine n_callI (st := [.ref q8, .ref q]) (ac_X3 (f5 0)) rfl rfl mw_X9_61 iw_X3_init nw_X3 cw_X3_init (show plainF mi_X3_init 1 from by unfold plainF; decide +kernel) (by decide) (RC_mono hRC (Nat.le_of_ble_eq_true rfl) (Nat.le_of_ble_eq_true rfl)) dX9_init_111 rfl (Nat.le_of_ble_eq_true rfl) (fun w1 hw1 => ?_)
  obtain ⟨f8, hf8, rfl⟩ := hw1
  subst hf8
  refine n_putF (ci := 9) (fty := tyX9 10) [.ref q1, .int (0), .int (0), .ref (f2 0), .ref (f3 0), .ref (f4 0), .int (0), .ref (f5 0), .ref (f6 0), .ref (f7 0), .ref (f8 0), .null, .null] 10 hI rfl uX9 tyX9 tyX9_ok nmX9 (by decide) fw_X9_62 rfl rfl (tyX9_ok 10 (by decide)) rfl rfl (Nat.le_of_ble_eq_true rfl) rfl dX9_init_114 ?_
  refine q_aload 0 dX9_init_117 rfl rfl ?_
  refine n_new (ci := 8) [.null, .null, .int 0, .null, .null, .int 0, .int 0, .null, .null, .null, .null, .null, .null, .null] rfl uX8 tyX8 tyX8_ok dv_8 clw_X9_66 iw_8 nw_X8 (RC_mono hRC (Nat.le_of_ble_eq_true rfl) (Nat.le_of_ble_eq_true rfl)) dX9_init_118 (fun q9 => ?_)
  refine q_dup dX9_init_121 ?_
  refine q_aload 0 dX9_init_122 rfl rfl ?_
  refine n_get (ci := 9) (v := .ref (f2 0)) 3 rfl uX9 (by decide) fw_X9_23 rfl dX9_init_123 ?_
  refine n_callI (st := [.ref q9, .ref q]) (ac_X8 (f2 0)) rfl rfl mw_X9_68 iw_X8_init nw_X8 cw_X8_init (show plainF mi_X8_init 1 from by unfold plainF; decide +kernel) (by decide) (RC_mono hRC (Nat.le_of_ble_eq_true rfl) (Nat.le_of_ble_eq_true rfl)) dX9_init_126 rfl (Nat.le_of_ble_eq_true rfl) (fun w1 hw1 => ?_)
  obtain ⟨f9, hf9, rfl⟩ := hw1
  subst hf9
  refine n_putF (ci := 9) (fty := tyX9 11) [.ref q1, .int (0), .int (0), .ref (f2 0), .ref (f3 0), .ref (f4 0), .int (0), .ref (f5 0), .ref (f6 0), .ref (f7 0), .ref (f8 0), .ref (f9 0), .null] 11 hI rfl uX9 tyX9 tyX9_ok nmX9 (by decide) fw_X9_71 rfl rfl (tyX9_ok 11 (by decide)) rfl rfl (Nat.le_of_ble_eq_true rfl) rfl dX9_init_129 ?_
  refine q_aload 0 dX9_init_132 rfl rfl ?_
  refine n_new (ci := 4) [.int 0, .int 0, .int 0, .null, .int 0, .null] rfl uX4 tyX4 tyX4_ok dv_4 clw_X9_75 iw_4 nw_X4 (RC_mono hRC (Nat.le_of_ble_eq_true rfl) (Nat.le_of_ble_eq_true rfl)) dX9_init_133 (fun q10 => ?_)
  refine q_dup dX9_init_136 ?_
  refine n_callIN (st := [.ref q10, .ref q]) (ac_X4) rfl rfl wn_X9_77 iw_X4_init nw_X4 cw_X4_init (show plainF mi_X4_init 0 from by unfold plainF; decide +kernel) (by decide) (RC_mono hRC (Nat.le_of_ble_eq_true rfl) (Nat.le_of_ble_eq_true rfl)) dX9_init_137 rfl (Nat.le_of_ble_eq_true rfl) (fun w1 hw1 => ?_)
  obtain ⟨f10, hf10, rfl⟩ := hw1
  subst hf10
  refine n_putF (ci := 9) (fty := tyX9 12) [.ref q1, .int (0), .int (0), .ref (f2 0), .ref (f3 0), .ref (f4 0), .int (0), .ref (f5 0), .ref (f6 0), .ref (f7 0), .ref (f8 0), .ref (f9 0), .ref (f10 0)] 12 hI rfl uX9 tyX9 tyX9_ok nmX9 (by decide) fw_X9_78 rfl rfl (tyX9_ok 12 (by decide)) rfl rfl (Nat.le_of_ble_eq_true rfl) rfl dX9_init_140 ?_
  exact q_ret dX9_init_143 rfl ⟨fun k => bif Nat.blt k 1 then q else bif Nat.blt k 2 then q1 else bif Nat.blt k 16 then f2 (k - 2) else bif Nat.blt k 30 then f3 (k - 16) else bif Nat.blt k 44 then f4 (k - 30) else bif Nat.blt k 49 then f5 (k - 44) else bif Nat.blt k 65 then f6 (k - 49) else bif Nat.blt k 70 then f7 (k - 65) else bif Nat.blt k 72 then f8 (k - 70) else bif Nat.blt k 83 then f9 (k - 72) else f10 (k - 83), rfl, rfl⟩
