theorem n_norm {E : XE} {si : SI} {cells slots : Nat} {Qf : State → Prop} {pc : Nat} {lv : List (Nat × Value)} {st : List Value} {hd : Nat × va_E} {tl : va_W} {tl' : va_W} (h9 : tl = tl') (h : CW E si cells slots Qf pc lv st (hd :: tl')) : CW E si cells slots Qf pc lv st (hd :: tl) := by
  rw [h9]
  exact h
theorem n_lastore6 {E : XE} {si : SI} {cells slots : Nat} {Qf : State → Prop} {pc : Nat} {lv : List (Nat × Value)} {st : List Value} {hd c0 c1 c2 c3 c4 c5 : Nat × va_E} {post : va_W} {a n : Nat} {f : Nat → Int64} {j : Int32} {x : Int64} (hj : vp_in j n) (hdc : decode si.1 pc = .ok (.lastore, 1))
    (h : CW E si cells slots Qf (pc + 1) lv st (hd :: c0 :: c1 :: c2 :: c3 :: c4 :: c5 :: (a, .inl ((EG E).2.1.2.1, n, .inr (.inl (vp_updL f j.toNatClampNeg x)))) :: post)) : CW E si cells slots Qf pc lv (.long x :: .int j :: .ref a :: st) (hd :: c0 :: c1 :: c2 :: c3 :: c4 :: c5 :: (a, .inl ((EG E).2.1.2.1, n, .inr (.inl f))) :: post) := n_lastore (tl := c0 :: c1 :: c2 :: c3 :: c4 :: c5 :: (a, .inl ((EG E).2.1.2.1, n, .inr (.inl f))) :: post) 6 rfl hj hdc h
def w_X10 (G : XG) (f : Nat → Nat) : va_W := [(f 0, .inr (10, [.int 0, .ref (f 1), .int 0, .int 0, .int 0, .int 0, .ref (f 2), .ref (f 3), .ref (f 4), .ref (f 5), .ref (f 6), .ref (f 7), .int 0, .int 0, .int 0, .int 0, .int 0, .int 0, .long 0, .int 0, .int 0, .ref (f 8), .ref (f 9), .int 0, .ref (f 10), .ref (f 11), .ref (f 12), .ref (f 13), .ref (f 14), .ref (f 15), .ref (f 16), .ref (f 17), .ref (f 18), .ref (f 19), .ref (f 20), .int 0, .int 0, .int 0, .ref (f 21), .ref (f 22), .ref (f 23)])), (f 1, .inl (G.2.1.2.2.1, 940, .inl fun _ => 0)), (f 2, .inl (G.2.1.1, 290, .inl fun _ => 0)), (f 3, .inl (G.2.1.1, 169, .inl fun _ => 0)), (f 4, .inl (G.2.1.1, 120, .inl fun _ => 0)), (f 5, .inl (G.2.1.1, 30, .inl fun _ => 0)), (f 6, .inl (G.2.1.2.1, 28, .inr (.inl fun _ => 0))), (f 7, .inl (G.2.1.2.1, 10, .inr (.inl (vp_updL ((vp_updL ((vp_updL ((vp_updL ((vp_updL ((vp_updL ((vp_updL ((vp_updL ((vp_updL ((vp_updL (fun _ => 0) (0 : Int32).toNatClampNeg (1802071652))) (1 : Int32).toNatClampNeg (25209))) (2 : Int32).toNatClampNeg (123581014175598))) (3 : Int32).toNatClampNeg (1953658213))) (4 : Int32).toNatClampNeg (1818326117))) (5 : Int32).toNatClampNeg (448444786035))) (6 : Int32).toNatClampNeg (1633969267))) (7 : Int32).toNatClampNeg (465726040947))) (8 : Int32).toNatClampNeg (1953854062))) (9 : Int32).toNatClampNeg (512735736947))))), (f 8, .inl (G.2.1.1, 108, .inl fun _ => 0)), (f 9, .inl (G.2.1.1, 3, .inl fun _ => 0)), (f 10, .inl (G.2.1.2.1, 96, .inr (.inl fun _ => 0))), (f 11, .inl (G.2.1.2.1, 3, .inr (.inl fun _ => 0))), (f 12, .inl (G.2.1.1, 4, .inl fun _ => 0)), (f 13, .inl (G.2.1.2.1, 90, .inr (.inl fun _ => 0))), (f 14, .inl (G.2.1.2.1, 30, .inr (.inl fun _ => 0))), (f 15, .inl (G.2.1.2.2.2, 16, .inl fun _ => 0)), (f 16, .inl (G.2.1.2.1, 8, .inr (.inl fun _ => 0))), (f 17, .inl (G.2.1.2.1, 48, .inr (.inl fun _ => 0))), (f 18, .inl (G.2.1.1, 4, .inl fun _ => 0)), (f 19, .inl (G.2.1.1, 400, .inl fun _ => 0)), (f 20, .inl (G.2.1.1, 2, .inl fun _ => 0)), (f 21, .inl (G.2.1.1, 580, .inl fun _ => 0)), (f 22, .inl (G.2.1.2.1, 14, .inr (.inl fun _ => 0))), (f 23, .inl (G.2.1.2.2.2, 2, .inl fun _ => 0))]
abbrev si_X10_init : SI := (cX10_init, RX10, 1, none, 1, 12)
set_option maxRecDepth 100000 in
set_option maxHeartbeats 8000000 in
theorem ac_X10 : AC mi_X10_init 1 12 23 2995 10 [.int 0, .null, .int 0, .int 0, .int 0, .int 0, .null, .null, .null, .null, .null, .null, .int 0, .int 0, .int 0, .int 0, .int 0, .int 0, .long 0, .int 0, .int 0, .null, .null, .int 0, .null, .null, .null, .null, .null, .null, .null, .null, .null, .null, .null, .int 0, .int 0, .int 0, .null, .null, .null] [] (fun G q w => ∃ f : Nat → Nat, f 0 = q ∧ w = w_X10 G f) := by
  refine AC_intro (si := si_X10_init) rfl (by decide +kernel) rfl (Nat.le_of_ble_eq_true rfl) (fun E q hI hRC => ?_)
  refine q_aload 0 dX10_init_0 rfl rfl ?_
  refine q_objInit ow_10 ow_i ow_c dX10_init_1 (by decide) ?_
  refine q_aload 0 dX10_init_4 rfl rfl ?_
  refine q_sipush dX10_init_5 ks2_940 ?_
  refine n_newa (k := 940) (t0 := 2) (ty := .byte) (a0 := (940, .inl fun _ => 0)) rfl (fun _ h => by cases h) rfl dX10_init_8 aw_byte (by decide) rfl (RC_mono hRC (Nat.le_of_ble_eq_true rfl) (Nat.le_of_ble_eq_true rfl)) (by decide) (fun _ => rfl) (fun q1 => ?_)
  refine n_putF (ci := 10) (fty := tyX10 1) [.int 0, .ref q1, .int 0, .int 0, .int 0, .int 0, .null, .null, .null, .null, .null, .null, .int 0, .int 0, .int 0, .int 0, .int 0, .int 0, .long 0, .int 0, .int 0, .null, .null, .int 0, .null, .null, .null, .null, .null, .null, .null, .null, .null, .null, .null, .int 0, .int 0, .int 0, .null, .null, .null] 1 hI rfl uX10 tyX10 tyX10_ok nmX10 (by decide) fw_X10_14 rfl rfl (tyX10_ok 1 (by decide)) rfl rfl (Nat.le_of_ble_eq_true rfl) rfl dX10_init_10 ?_
  refine q_aload 0 dX10_init_13 rfl rfl ?_
  refine q_sipush dX10_init_14 ks2_290 ?_
  refine n_newa (k := 290) (t0 := 0) (ty := .int) (a0 := (290, .inl fun _ => 0)) rfl (fun _ h => by cases h) rfl dX10_init_17 aw_int (by decide) rfl (RC_mono hRC (Nat.le_of_ble_eq_true rfl) (Nat.le_of_ble_eq_true rfl)) (by decide) (fun _ => rfl) (fun q2 => ?_)
  refine n_putF (ci := 10) (fty := tyX10 6) [.int 0, .ref q1, .int 0, .int 0, .int 0, .int 0, .ref q2, .null, .null, .null, .null, .null, .int 0, .int 0, .int 0, .int 0, .int 0, .int 0, .long 0, .int 0, .int 0, .null, .null, .int 0, .null, .null, .null, .null, .null, .null, .null, .null, .null, .null, .null, .int 0, .int 0, .int 0, .null, .null, .null] 6 hI rfl uX10 tyX10 tyX10_ok nmX10 (by decide) fw_X10_41 rfl rfl (tyX10_ok 6 (by decide)) rfl rfl (Nat.le_of_ble_eq_true rfl) rfl dX10_init_19 ?_
  refine q_aload 0 dX10_init_22 rfl rfl ?_
  refine q_sipush dX10_init_23 ks2_169 ?_
  refine n_newa (k := 169) (t0 := 0) (ty := .int) (a0 := (169, .inl fun _ => 0)) rfl (fun _ h => by cases h) rfl dX10_init_26 aw_int (by decide) rfl (RC_mono hRC (Nat.le_of_ble_eq_true rfl) (Nat.le_of_ble_eq_true rfl)) (by decide) (fun _ => rfl) (fun q3 => ?_)
  refine n_putF (ci := 10) (fty := tyX10 7) [.int 0, .ref q1, .int 0, .int 0, .int 0, .int 0, .ref q2, .ref q3, .null, .null, .null, .null, .int 0, .int 0, .int 0, .int 0, .int 0, .int 0, .long 0, .int 0, .int 0, .null, .null, .int 0, .null, .null, .null, .null, .null, .null, .null, .null, .null, .null, .null, .int 0, .int 0, .int 0, .null, .null, .null] 7 hI rfl uX10 tyX10 tyX10_ok nmX10 (by decide) fw_X10_45 rfl rfl (tyX10_ok 7 (by decide)) rfl rfl (Nat.le_of_ble_eq_true rfl) rfl dX10_init_28 ?_
  refine q_aload 0 dX10_init_31 rfl rfl ?_
  refine q_bipush dX10_init_32 kb2_120 ?_
  refine n_newa (k := 120) (t0 := 0) (ty := .int) (a0 := (120, .inl fun _ => 0)) rfl (fun _ h => by cases h) rfl dX10_init_34 aw_int (by decide) rfl (RC_mono hRC (Nat.le_of_ble_eq_true rfl) (Nat.le_of_ble_eq_true rfl)) (by decide) (fun _ => rfl) (fun q4 => ?_)
  refine n_putF (ci := 10) (fty := tyX10 8) [.int 0, .ref q1, .int 0, .int 0, .int 0, .int 0, .ref q2, .ref q3, .ref q4, .null, .null, .null, .int 0, .int 0, .int 0, .int 0, .int 0, .int 0, .long 0, .int 0, .int 0, .null, .null, .int 0, .null, .null, .null, .null, .null, .null, .null, .null, .null, .null, .null, .int 0, .int 0, .int 0, .null, .null, .null] 8 hI rfl uX10 tyX10 tyX10_ok nmX10 (by decide) fw_X10_48 rfl rfl (tyX10_ok 8 (by decide)) rfl rfl (Nat.le_of_ble_eq_true rfl) rfl dX10_init_36 ?_
  refine q_aload 0 dX10_init_39 rfl rfl ?_
  refine q_bipush dX10_init_40 kb2_30 ?_
  refine n_newa (k := 30) (t0 := 0) (ty := .int) (a0 := (30, .inl fun _ => 0)) rfl (fun _ h => by cases h) rfl dX10_init_42 aw_int (by decide) rfl (RC_mono hRC (Nat.le_of_ble_eq_true rfl) (Nat.le_of_ble_eq_true rfl)) (by decide) (fun _ => rfl) (fun q5 => ?_)
  refine n_putF (ci := 10) (fty := tyX10 9) [.int 0, .ref q1, .int 0, .int 0, .int 0, .int 0, .ref q2, .ref q3, .ref q4, .ref q5, .null, .null, .int 0, .int 0, .int 0, .int 0, .int 0, .int 0, .long 0, .int 0, .int 0, .null, .null, .int 0, .null, .null, .null, .null, .null, .null, .null, .null, .null, .null, .null, .int 0, .int 0, .int 0, .null, .null, .null] 9 hI rfl uX10 tyX10 tyX10_ok nmX10 (by decide) fw_X10_51 rfl rfl (tyX10_ok 9 (by decide)) rfl rfl (Nat.le_of_ble_eq_true rfl) rfl dX10_init_44 ?_
  refine q_aload 0 dX10_init_47 rfl rfl ?_
  refine q_bipush dX10_init_48 kb2_28 ?_
  refine n_newa (k := 28) (t0 := 1) (ty := .long) (a0 := (28, .inr (.inl fun _ => 0))) rfl (fun _ h => by cases h) rfl dX10_init_50 aw_long (by decide) rfl (RC_mono hRC (Nat.le_of_ble_eq_true rfl) (Nat.le_of_ble_eq_true rfl)) (by decide) (fun _ => rfl) (fun q6 => ?_)
  refine n_putF (ci := 10) (fty := tyX10 10) [.int 0, .ref q1, .int 0, .int 0, .int 0, .int 0, .ref q2, .ref q3, .ref q4, .ref q5, .ref q6, .null, .int 0, .int 0, .int 0, .int 0, .int 0, .int 0, .long 0, .int 0, .int 0, .null, .null, .int 0, .null, .null, .null, .null, .null, .null, .null, .null, .null, .null, .null, .int 0, .int 0, .int 0, .null, .null, .null] 10 hI rfl uX10 tyX10 tyX10_ok nmX10 (by decide) fw_X10_54 rfl rfl (tyX10_ok 10 (by decide)) rfl rfl (Nat.le_of_ble_eq_true rfl) rfl dX10_init_52 ?_
  refine q_aload 0 dX10_init_55 rfl rfl ?_
  refine q_bipush dX10_init_56 kb2_10 ?_
  refine n_newa (k := 10) (t0 := 1) (ty := .long) (a0 := (10, .inr (.inl fun _ => 0))) rfl (fun _ h => by cases h) rfl dX10_init_58 aw_long (by decide) rfl (RC_mono hRC (Nat.le_of_ble_eq_true rfl) (Nat.le_of_ble_eq_true rfl)) (by decide) (fun _ => rfl) (fun q7 => ?_)
  refine n_putF (ci := 10) (fty := tyX10 11) [.int 0, .ref q1, .int 0, .int 0, .int 0, .int 0, .ref q2, .ref q3, .ref q4, .ref q5, .ref q6, .ref q7, .int 0, .int 0, .int 0, .int 0, .int 0, .int 0, .long 0, .int 0, .int 0, .null, .null, .int 0, .null, .null, .null, .null, .null, .null, .null, .null, .null, .null, .null, .int 0, .int 0, .int 0, .null, .null, .null] 11 hI rfl uX10 tyX10 tyX10_ok nmX10 (by decide) fw_X10_58 rfl rfl (tyX10_ok 11 (by decide)) rfl rfl (Nat.le_of_ble_eq_true rfl) rfl dX10_init_60 ?_
  refine q_aload 0 dX10_init_63 rfl rfl ?_
  refine q_bipush dX10_init_64 kb2_108 ?_
  refine n_newa (k := 108) (t0 := 0) (ty := .int) (a0 := (108, .inl fun _ => 0)) rfl (fun _ h => by cases h) rfl dX10_init_66 aw_int (by decide) rfl (RC_mono hRC (Nat.le_of_ble_eq_true rfl) (Nat.le_of_ble_eq_true rfl)) (by decide) (fun _ => rfl) (fun q8 => ?_)
  refine n_putF (ci := 10) (fty := tyX10 21) [.int 0, .ref q1, .int 0, .int 0, .int 0, .int 0, .ref q2, .ref q3, .ref q4, .ref q5, .ref q6, .ref q7, .int 0, .int 0, .int 0, .int 0, .int 0, .int 0, .long 0, .int 0, .int 0, .ref q8, .null, .int 0, .null, .null, .null, .null, .null, .null, .null, .null, .null, .null, .null, .int 0, .int 0, .int 0, .null, .null, .null] 21 hI rfl uX10 tyX10 tyX10_ok nmX10 (by decide) fw_X10_61 rfl rfl (tyX10_ok 21 (by decide)) rfl rfl (Nat.le_of_ble_eq_true rfl) rfl dX10_init_68 ?_
  refine q_aload 0 dX10_init_71 rfl rfl ?_
  refine q_iconst dX10_init_72 ki2_3 ?_
  refine n_newa (k := 3) (t0 := 0) (ty := .int) (a0 := (3, .inl fun _ => 0)) rfl (fun _ h => by cases h) rfl dX10_init_73 aw_int (by decide) rfl (RC_mono hRC (Nat.le_of_ble_eq_true rfl) (Nat.le_of_ble_eq_true rfl)) (by decide) (fun _ => rfl) (fun q9 => ?_)
  refine n_putF (ci := 10) (fty := tyX10 22) [.int 0, .ref q1, .int 0, .int 0, .int 0, .int 0, .ref q2, .ref q3, .ref q4, .ref q5, .ref q6, .ref q7, .int 0, .int 0, .int 0, .int 0, .int 0, .int 0, .long 0, .int 0, .int 0, .ref q8, .ref q9, .int 0, .null, .null, .null, .null, .null, .null, .null, .null, .null, .null, .null, .int 0, .int 0, .int 0, .null, .null, .null] 22 hI rfl uX10 tyX10 tyX10_ok nmX10 (by decide) fw_X10_64 rfl rfl (tyX10_ok 22 (by decide)) rfl rfl (Nat.le_of_ble_eq_true rfl) rfl dX10_init_75 ?_
  refine q_aload 0 dX10_init_78 rfl rfl ?_
  refine q_bipush dX10_init_79 kb2_96 ?_
  refine n_newa (k := 96) (t0 := 1) (ty := .long) (a0 := (96, .inr (.inl fun _ => 0))) rfl (fun _ h => by cases h) rfl dX10_init_81 aw_long (by decide) rfl (RC_mono hRC (Nat.le_of_ble_eq_true rfl) (Nat.le_of_ble_eq_true rfl)) (by decide) (fun _ => rfl) (fun q10 => ?_)
  refine n_putF (ci := 10) (fty := tyX10 24) [.int 0, .ref q1, .int 0, .int 0, .int 0, .int 0, .ref q2, .ref q3, .ref q4, .ref q5, .ref q6, .ref q7, .int 0, .int 0, .int 0, .int 0, .int 0, .int 0, .long 0, .int 0, .int 0, .ref q8, .ref q9, .int 0, .ref q10, .null, .null, .null, .null, .null, .null, .null, .null, .null, .null, .int 0, .int 0, .int 0, .null, .null, .null] 24 hI rfl uX10 tyX10 tyX10_ok nmX10 (by decide) fw_X10_67 rfl rfl (tyX10_ok 24 (by decide)) rfl rfl (Nat.le_of_ble_eq_true rfl) rfl dX10_init_83 ?_
  refine q_aload 0 dX10_init_86 rfl rfl ?_
  refine q_iconst dX10_init_87 ki2_3 ?_
  refine n_newa (k := 3) (t0 := 1) (ty := .long) (a0 := (3, .inr (.inl fun _ => 0))) rfl (fun _ h => by cases h) rfl dX10_init_88 aw_long (by decide) rfl (RC_mono hRC (Nat.le_of_ble_eq_true rfl) (Nat.le_of_ble_eq_true rfl)) (by decide) (fun _ => rfl) (fun q11 => ?_)
  refine n_putF (ci := 10) (fty := tyX10 25) [.int 0, .ref q1, .int 0, .int 0, .int 0, .int 0, .ref q2, .ref q3, .ref q4, .ref q5, .ref q6, .ref q7, .int 0, .int 0, .int 0, .int 0, .int 0, .int 0, .long 0, .int 0, .int 0, .ref q8, .ref q9, .int 0, .ref q10, .ref q11, .null, .null, .null, .null, .null, .null, .null, .null, .null, .int 0, .int 0, .int 0, .null, .null, .null] 25 hI rfl uX10 tyX10 tyX10_ok nmX10 (by decide) fw_X10_70 rfl rfl (tyX10_ok 25 (by decide)) rfl rfl (Nat.le_of_ble_eq_true rfl) rfl dX10_init_90 ?_
  refine q_aload 0 dX10_init_93 rfl rfl ?_
  refine q_iconst dX10_init_94 ki2_4 ?_
  refine n_newa (k := 4) (t0 := 0) (ty := .int) (a0 := (4, .inl fun _ => 0)) rfl (fun _ h => by cases h) rfl dX10_init_95 aw_int (by decide) rfl (RC_mono hRC (Nat.le_of_ble_eq_true rfl) (Nat.le_of_ble_eq_true rfl)) (by decide) (fun _ => rfl) (fun q12 => ?_)
  refine n_putF (ci := 10) (fty := tyX10 26) [.int 0, .ref q1, .int 0, .int 0, .int 0, .int 0, .ref q2, .ref q3, .ref q4, .ref q5, .ref q6, .ref q7, .int 0, .int 0, .int 0, .int 0, .int 0, .int 0, .long 0, .int 0, .int 0, .ref q8, .ref q9, .int 0, .ref q10, .ref q11, .ref q12, .null, .null, .null, .null, .null, .null, .null, .null, .int 0, .int 0, .int 0, .null, .null, .null] 26 hI rfl uX10 tyX10 tyX10_ok nmX10 (by decide) fw_X10_73 rfl rfl (tyX10_ok 26 (by decide)) rfl rfl (Nat.le_of_ble_eq_true rfl) rfl dX10_init_97 ?_
  refine q_aload 0 dX10_init_100 rfl rfl ?_
  refine q_bipush dX10_init_101 kb2_90 ?_
  refine n_newa (k := 90) (t0 := 1) (ty := .long) (a0 := (90, .inr (.inl fun _ => 0))) rfl (fun _ h => by cases h) rfl dX10_init_103 aw_long (by decide) rfl (RC_mono hRC (Nat.le_of_ble_eq_true rfl) (Nat.le_of_ble_eq_true rfl)) (by decide) (fun _ => rfl) (fun q13 => ?_)
  refine n_putF (ci := 10) (fty := tyX10 27) [.int 0, .ref q1, .int 0, .int 0, .int 0, .int 0, .ref q2, .ref q3, .ref q4, .ref q5, .ref q6, .ref q7, .int 0, .int 0, .int 0, .int 0, .int 0, .int 0, .long 0, .int 0, .int 0, .ref q8, .ref q9, .int 0, .ref q10, .ref q11, .ref q12, .ref q13, .null, .null, .null, .null, .null, .null, .null, .int 0, .int 0, .int 0, .null, .null, .null] 27 hI rfl uX10 tyX10 tyX10_ok nmX10 (by decide) fw_X10_76 rfl rfl (tyX10_ok 27 (by decide)) rfl rfl (Nat.le_of_ble_eq_true rfl) rfl dX10_init_105 ?_
  refine q_aload 0 dX10_init_108 rfl rfl ?_
  refine q_bipush dX10_init_109 kb2_30 ?_
  refine n_newa (k := 30) (t0 := 1) (ty := .long) (a0 := (30, .inr (.inl fun _ => 0))) rfl (fun _ h => by cases h) rfl dX10_init_111 aw_long (by decide) rfl (RC_mono hRC (Nat.le_of_ble_eq_true rfl) (Nat.le_of_ble_eq_true rfl)) (by decide) (fun _ => rfl) (fun q14 => ?_)
  refine n_putF (ci := 10) (fty := tyX10 28) [.int 0, .ref q1, .int 0, .int 0, .int 0, .int 0, .ref q2, .ref q3, .ref q4, .ref q5, .ref q6, .ref q7, .int 0, .int 0, .int 0, .int 0, .int 0, .int 0, .long 0, .int 0, .int 0, .ref q8, .ref q9, .int 0, .ref q10, .ref q11, .ref q12, .ref q13, .ref q14, .null, .null, .null, .null, .null, .null, .int 0, .int 0, .int 0, .null, .null, .null] 28 hI rfl uX10 tyX10 tyX10_ok nmX10 (by decide) fw_X10_79 rfl rfl (tyX10_ok 28 (by decide)) rfl rfl (Nat.le_of_ble_eq_true rfl) rfl dX10_init_113 ?_
  refine q_aload 0 dX10_init_116 rfl rfl ?_
  refine q_bipush dX10_init_117 kb2_16 ?_
  refine n_newa (k := 16) (t0 := 3) (ty := .boolean) (a0 := (16, .inl fun _ => 0)) rfl (fun _ h => by cases h) rfl dX10_init_119 aw_boolean (by decide) rfl (RC_mono hRC (Nat.le_of_ble_eq_true rfl) (Nat.le_of_ble_eq_true rfl)) (by decide) (fun _ => rfl) (fun q15 => ?_)
  refine n_putF (ci := 10) (fty := tyX10 29) [.int 0, .ref q1, .int 0, .int 0, .int 0, .int 0, .ref q2, .ref q3, .ref q4, .ref q5, .ref q6, .ref q7, .int 0, .int 0, .int 0, .int 0, .int 0, .int 0, .long 0, .int 0, .int 0, .ref q8, .ref q9, .int 0, .ref q10, .ref q11, .ref q12, .ref q13, .ref q14, .ref q15, .null, .null, .null, .null, .null, .int 0, .int 0, .int 0, .null, .null, .null] 29 hI rfl uX10 tyX10 tyX10_ok nmX10 (by decide) fw_X10_82 rfl rfl (tyX10_ok 29 (by decide)) rfl rfl (Nat.le_of_ble_eq_true rfl) rfl dX10_init_121 ?_
  refine q_aload 0 dX10_init_124 rfl rfl ?_
  refine q_bipush dX10_init_125 kb2_8 ?_
  refine n_newa (k := 8) (t0 := 1) (ty := .long) (a0 := (8, .inr (.inl fun _ => 0))) rfl (fun _ h => by cases h) rfl dX10_init_127 aw_long (by decide) rfl (RC_mono hRC (Nat.le_of_ble_eq_true rfl) (Nat.le_of_ble_eq_true rfl)) (by decide) (fun _ => rfl) (fun q16 => ?_)
  refine n_putF (ci := 10) (fty := tyX10 30) [.int 0, .ref q1, .int 0, .int 0, .int 0, .int 0, .ref q2, .ref q3, .ref q4, .ref q5, .ref q6, .ref q7, .int 0, .int 0, .int 0, .int 0, .int 0, .int 0, .long 0, .int 0, .int 0, .ref q8, .ref q9, .int 0, .ref q10, .ref q11, .ref q12, .ref q13, .ref q14, .ref q15, .ref q16, .null, .null, .null, .null, .int 0, .int 0, .int 0, .null, .null, .null] 30 hI rfl uX10 tyX10 tyX10_ok nmX10 (by decide) fw_X10_86 rfl rfl (tyX10_ok 30 (by decide)) rfl rfl (Nat.le_of_ble_eq_true rfl) rfl dX10_init_129 ?_
  refine q_aload 0 dX10_init_132 rfl rfl ?_
  refine q_bipush dX10_init_133 kb2_48 ?_
  refine n_newa (k := 48) (t0 := 1) (ty := .long) (a0 := (48, .inr (.inl fun _ => 0))) rfl (fun _ h => by cases h) rfl dX10_init_135 aw_long (by decide) rfl (RC_mono hRC (Nat.le_of_ble_eq_true rfl) (Nat.le_of_ble_eq_true rfl)) (by decide) (fun _ => rfl) (fun q17 => ?_)
  refine n_putF (ci := 10) (fty := tyX10 31) [.int 0, .ref q1, .int 0, .int 0, .int 0, .int 0, .ref q2, .ref q3, .ref q4, .ref q5, .ref q6, .ref q7, .int 0, .int 0, .int 0, .int 0, .int 0, .int 0, .long 0, .int 0, .int 0, .ref q8, .ref q9, .int 0, .ref q10, .ref q11, .ref q12, .ref q13, .ref q14, .ref q15, .ref q16, .ref q17, .null, .null, .null, .int 0, .int 0, .int 0, .null, .null, .null] 31 hI rfl uX10 tyX10 tyX10_ok nmX10 (by decide) fw_X10_89 rfl rfl (tyX10_ok 31 (by decide)) rfl rfl (Nat.le_of_ble_eq_true rfl) rfl dX10_init_137 ?_
  refine q_aload 0 dX10_init_140 rfl rfl ?_
  refine q_iconst dX10_init_141 ki2_4 ?_
  refine n_newa (k := 4) (t0 := 0) (ty := .int) (a0 := (4, .inl fun _ => 0)) rfl (fun _ h => by cases h) rfl dX10_init_142 aw_int (by decide) rfl (RC_mono hRC (Nat.le_of_ble_eq_true rfl) (Nat.le_of_ble_eq_true rfl)) (by decide) (fun _ => rfl) (fun q18 => ?_)
  refine n_putF (ci := 10) (fty := tyX10 32) [.int 0, .ref q1, .int 0, .int 0, .int 0, .int 0, .ref q2, .ref q3, .ref q4, .ref q5, .ref q6, .ref q7, .int 0, .int 0, .int 0, .int 0, .int 0, .int 0, .long 0, .int 0, .int 0, .ref q8, .ref q9, .int 0, .ref q10, .ref q11, .ref q12, .ref q13, .ref q14, .ref q15, .ref q16, .ref q17, .ref q18, .null, .null, .int 0, .int 0, .int 0, .null, .null, .null] 32 hI rfl uX10 tyX10 tyX10_ok nmX10 (by decide) fw_X10_92 rfl rfl (tyX10_ok 32 (by decide)) rfl rfl (Nat.le_of_ble_eq_true rfl) rfl dX10_init_144 ?_
  refine q_aload 0 dX10_init_147 rfl rfl ?_
  refine q_sipush dX10_init_148 ks2_400 ?_
  refine n_newa (k := 400) (t0 := 0) (ty := .int) (a0 := (400, .inl fun _ => 0)) rfl (fun _ h => by cases h) rfl dX10_init_151 aw_int (by decide) rfl (RC_mono hRC (Nat.le_of_ble_eq_true rfl) (Nat.le_of_ble_eq_true rfl)) (by decide) (fun _ => rfl) (fun q19 => ?_)
  refine n_putF (ci := 10) (fty := tyX10 33) [.int 0, .ref q1, .int 0, .int 0, .int 0, .int 0, .ref q2, .ref q3, .ref q4, .ref q5, .ref q6, .ref q7, .int 0, .int 0, .int 0, .int 0, .int 0, .int 0, .long 0, .int 0, .int 0, .ref q8, .ref q9, .int 0, .ref q10, .ref q11, .ref q12, .ref q13, .ref q14, .ref q15, .ref q16, .ref q17, .ref q18, .ref q19, .null, .int 0, .int 0, .int 0, .null, .null, .null] 33 hI rfl uX10 tyX10 tyX10_ok nmX10 (by decide) fw_X10_95 rfl rfl (tyX10_ok 33 (by decide)) rfl rfl (Nat.le_of_ble_eq_true rfl) rfl dX10_init_153 ?_
  refine q_aload 0 dX10_init_156 rfl rfl ?_
  refine q_iconst dX10_init_157 ki2_2 ?_
  refine n_newa (k := 2) (t0 := 0) (ty := .int) (a0 := (2, .inl fun _ => 0)) rfl (fun _ h => by cases h) rfl dX10_init_158 aw_int (by decide) rfl (RC_mono hRC (Nat.le_of_ble_eq_true rfl) (Nat.le_of_ble_eq_true rfl)) (by decide) (fun _ => rfl) (fun q20 => ?_)
  refine n_putF (ci := 10) (fty := tyX10 34) [.int 0, .ref q1, .int 0, .int 0, .int 0, .int 0, .ref q2, .ref q3, .ref q4, .ref q5, .ref q6, .ref q7, .int 0, .int 0, .int 0, .int 0, .int 0, .int 0, .long 0, .int 0, .int 0, .ref q8, .ref q9, .int 0, .ref q10, .ref q11, .ref q12, .ref q13, .ref q14, .ref q15, .ref q16, .ref q17, .ref q18, .ref q19, .ref q20, .int 0, .int 0, .int 0, .null, .null, .null] 34 hI rfl uX10 tyX10 tyX10_ok nmX10 (by decide) fw_X10_98 rfl rfl (tyX10_ok 34 (by decide)) rfl rfl (Nat.le_of_ble_eq_true rfl) rfl dX10_init_160 ?_
  refine q_aload 0 dX10_init_163 rfl rfl ?_
  refine q_sipush dX10_init_164 ks2_580 ?_
  refine n_newa (k := 580) (t0 := 0) (ty := .int) (a0 := (580, .inl fun _ => 0)) rfl (fun _ h => by cases h) rfl dX10_init_167 aw_int (by decide) rfl (RC_mono hRC (Nat.le_of_ble_eq_true rfl) (Nat.le_of_ble_eq_true rfl)) (by decide) (fun _ => rfl) (fun q21 => ?_)
  refine n_putF (ci := 10) (fty := tyX10 38) [.int 0, .ref q1, .int 0, .int 0, .int 0, .int 0, .ref q2, .ref q3, .ref q4, .ref q5, .ref q6, .ref q7, .int 0, .int 0, .int 0, .int 0, .int 0, .int 0, .long 0, .int 0, .int 0, .ref q8, .ref q9, .int 0, .ref q10, .ref q11, .ref q12, .ref q13, .ref q14, .ref q15, .ref q16, .ref q17, .ref q18, .ref q19, .ref q20, .int 0, .int 0, .int 0, .ref q21, .null, .null] 38 hI rfl uX10 tyX10 tyX10_ok nmX10 (by decide) fw_X10_101 rfl rfl (tyX10_ok 38 (by decide)) rfl rfl (Nat.le_of_ble_eq_true rfl) rfl dX10_init_169 ?_
  refine q_aload 0 dX10_init_172 rfl rfl ?_
  refine q_bipush dX10_init_173 kb2_14 ?_
  refine n_newa (k := 14) (t0 := 1) (ty := .long) (a0 := (14, .inr (.inl fun _ => 0))) rfl (fun _ h => by cases h) rfl dX10_init_175 aw_long (by decide) rfl (RC_mono hRC (Nat.le_of_ble_eq_true rfl) (Nat.le_of_ble_eq_true rfl)) (by decide) (fun _ => rfl) (fun q22 => ?_)
  refine n_putF (ci := 10) (fty := tyX10 39) [.int 0, .ref q1, .int 0, .int 0, .int 0, .int 0, .ref q2, .ref q3, .ref q4, .ref q5, .ref q6, .ref q7, .int 0, .int 0, .int 0, .int 0, .int 0, .int 0, .long 0, .int 0, .int 0, .ref q8, .ref q9, .int 0, .ref q10, .ref q11, .ref q12, .ref q13, .ref q14, .ref q15, .ref q16, .ref q17, .ref q18, .ref q19, .ref q20, .int 0, .int 0, .int 0, .ref q21, .ref q22, .null] 39 hI rfl uX10 tyX10 tyX10_ok nmX10 (by decide) fw_X10_104 rfl rfl (tyX10_ok 39 (by decide)) rfl rfl (Nat.le_of_ble_eq_true rfl) rfl dX10_init_177 ?_
  refine q_aload 0 dX10_init_180 rfl rfl ?_
  refine q_iconst dX10_init_181 ki2_2 ?_
  refine n_newa (k := 2) (t0 := 3) (ty := .boolean) (a0 := (2, .inl fun _ => 0)) rfl (fun _ h => by cases h) rfl dX10_init_182 aw_boolean (by decide) rfl (RC_mono hRC (Nat.le_of_ble_eq_true rfl) (Nat.le_of_ble_eq_true rfl)) (by decide) (fun _ => rfl) (fun q23 => ?_)
  refine n_putF (ci := 10) (fty := tyX10 40) [.int 0, .ref q1, .int 0, .int 0, .int 0, .int 0, .ref q2, .ref q3, .ref q4, .ref q5, .ref q6, .ref q7, .int 0, .int 0, .int 0, .int 0, .int 0, .int 0, .long 0, .int 0, .int 0, .ref q8, .ref q9, .int 0, .ref q10, .ref q11, .ref q12, .ref q13, .ref q14, .ref q15, .ref q16, .ref q17, .ref q18, .ref q19, .ref q20, .int 0, .int 0, .int 0, .ref q21, .ref q22, .ref q23] 40 hI rfl uX10 tyX10 tyX10_ok nmX10 (by decide) fw_X10_107 rfl rfl (tyX10_ok 40 (by decide)) rfl rfl (Nat.le_of_ble_eq_true rfl) rfl dX10_init_184 ?_
  refine q_aload 0 dX10_init_187 rfl rfl ?_
  refine n_get (ci := 10) (v := .ref q7) 11 rfl uX10 (by decide) fw_X10_58 rfl dX10_init_188 ?_
  refine q_iconst dX10_init_191 ki2_0 ?_
  refine q_ldc2 dX10_init_192 kw_X10_110 ?_
  refine n_norm (tl' := [(q1, .inl ((EG E).2.1.2.2.1, 940, .inl fun _ => 0)), (q2, .inl ((EG E).2.1.1, 290, .inl fun _ => 0)), (q3, .inl ((EG E).2.1.1, 169, .inl fun _ => 0)), (q4, .inl ((EG E).2.1.1, 120, .inl fun _ => 0)), (q5, .inl ((EG E).2.1.1, 30, .inl fun _ => 0)), (q6, .inl ((EG E).2.1.2.1, 28, .inr (.inl fun _ => 0))), (q7, .inl ((EG E).2.1.2.1, 10, .inr (.inl fun _ => 0))), (q8, .inl ((EG E).2.1.1, 108, .inl fun _ => 0)), (q9, .inl ((EG E).2.1.1, 3, .inl fun _ => 0)), (q10, .inl ((EG E).2.1.2.1, 96, .inr (.inl fun _ => 0))), (q11, .inl ((EG E).2.1.2.1, 3, .inr (.inl fun _ => 0))), (q12, .inl ((EG E).2.1.1, 4, .inl fun _ => 0)), (q13, .inl ((EG E).2.1.2.1, 90, .inr (.inl fun _ => 0))), (q14, .inl ((EG E).2.1.2.1, 30, .inr (.inl fun _ => 0))), (q15, .inl ((EG E).2.1.2.2.2, 16, .inl fun _ => 0)), (q16, .inl ((EG E).2.1.2.1, 8, .inr (.inl fun _ => 0))), (q17, .inl ((EG E).2.1.2.1, 48, .inr (.inl fun _ => 0))), (q18, .inl ((EG E).2.1.1, 4, .inl fun _ => 0)), (q19, .inl ((EG E).2.1.1, 400, .inl fun _ => 0)), (q20, .inl ((EG E).2.1.1, 2, .inl fun _ => 0)), (q21, .inl ((EG E).2.1.1, 580, .inl fun _ => 0)), (q22, .inl ((EG E).2.1.2.1, 14, .inr (.inl fun _ => 0))), (q23, .inl ((EG E).2.1.2.2.2, 2, .inl fun _ => 0))]) (by simp only [List.append_assoc, List.cons_append, List.nil_append]) ?_
  refine n_lastore6 (by unfold vp_in; decide) dX10_init_195 ?_
  refine q_aload 0 dX10_init_196 rfl rfl ?_
  refine n_get (ci := 10) (v := .ref q7) 11 rfl uX10 (by decide) fw_X10_58 rfl dX10_init_197 ?_
  refine q_iconst dX10_init_200 ki2_1 ?_
  refine q_ldc2 dX10_init_201 kw_X10_112 ?_
  refine n_lastore6 (by unfold vp_in; decide) dX10_init_204 ?_
  refine q_aload 0 dX10_init_205 rfl rfl ?_
  refine n_get (ci := 10) (v := .ref q7) 11 rfl uX10 (by decide) fw_X10_58 rfl dX10_init_206 ?_
  refine q_iconst dX10_init_209 ki2_2 ?_
  refine q_ldc2 dX10_init_210 kw_X10_114 ?_
  refine n_lastore6 (by unfold vp_in; decide) dX10_init_213 ?_
  refine q_aload 0 dX10_init_214 rfl rfl ?_
  refine n_get (ci := 10) (v := .ref q7) 11 rfl uX10 (by decide) fw_X10_58 rfl dX10_init_215 ?_
  refine q_iconst dX10_init_218 ki2_3 ?_
  refine q_ldc2 dX10_init_219 kw_X10_116 ?_
  refine n_lastore6 (by unfold vp_in; decide) dX10_init_222 ?_
  refine q_aload 0 dX10_init_223 rfl rfl ?_
  refine n_get (ci := 10) (v := .ref q7) 11 rfl uX10 (by decide) fw_X10_58 rfl dX10_init_224 ?_
  refine q_iconst dX10_init_227 ki2_4 ?_
  refine q_ldc2 dX10_init_228 kw_X10_118 ?_
  refine n_lastore6 (by unfold vp_in; decide) dX10_init_231 ?_
  refine q_aload 0 dX10_init_232 rfl rfl ?_
  refine n_get (ci := 10) (v := .ref q7) 11 rfl uX10 (by decide) fw_X10_58 rfl dX10_init_233 ?_
  refine q_iconst dX10_init_236 ki2_5 ?_
  refine q_ldc2 dX10_init_237 kw_X10_120 ?_
  refine n_lastore6 (by unfold vp_in; decide) dX10_init_240 ?_
  refine q_aload 0 dX10_init_241 rfl rfl ?_
  refine n_get (ci := 10) (v := .ref q7) 11 rfl uX10 (by decide) fw_X10_58 rfl dX10_init_242 ?_
  refine q_bipush dX10_init_245 kb2_6 ?_
  refine q_ldc2 dX10_init_247 kw_X10_122 ?_
  refine n_lastore6 (by unfold vp_in; decide) dX10_init_250 ?_
  refine q_aload 0 dX10_init_251 rfl rfl ?_
  refine n_get (ci := 10) (v := .ref q7) 11 rfl uX10 (by decide) fw_X10_58 rfl dX10_init_252 ?_
  refine q_bipush dX10_init_255 kb2_7 ?_
  refine q_ldc2 dX10_init_257 kw_X10_124 ?_
  refine n_lastore6 (by unfold vp_in; decide) dX10_init_260 ?_
  refine q_aload 0 dX10_init_261 rfl rfl ?_
  refine n_get (ci := 10) (v := .ref q7) 11 rfl uX10 (by decide) fw_X10_58 rfl dX10_init_262 ?_
  refine q_bipush dX10_init_265 kb2_8 ?_
  refine q_ldc2 dX10_init_267 kw_X10_126 ?_
  refine n_lastore6 (by unfold vp_in; decide) dX10_init_270 ?_
  refine q_aload 0 dX10_init_271 rfl rfl ?_
  refine n_get (ci := 10) (v := .ref q7) 11 rfl uX10 (by decide) fw_X10_58 rfl dX10_init_272 ?_
  refine q_bipush dX10_init_275 kb2_9 ?_
  refine q_ldc2 dX10_init_277 kw_X10_128 ?_
  refine n_lastore6 (by unfold vp_in; decide) dX10_init_280 ?_
  exact q_ret dX10_init_281 rfl ⟨fun k => bif Nat.blt k 1 then q else bif Nat.blt k 2 then q1 else bif Nat.blt k 3 then q2 else bif Nat.blt k 4 then q3 else bif Nat.blt k 5 then q4 else bif Nat.blt k 6 then q5 else bif Nat.blt k 7 then q6 else bif Nat.blt k 8 then q7 else bif Nat.blt k 9 then q8 else bif Nat.blt k 10 then q9 else bif Nat.blt k 11 then q10 else bif Nat.blt k 12 then q11 else bif Nat.blt k 13 then q12 else bif Nat.blt k 14 then q13 else bif Nat.blt k 15 then q14 else bif Nat.blt k 16 then q15 else bif Nat.blt k 17 then q16 else bif Nat.blt k 18 then q17 else bif Nat.blt k 19 then q18 else bif Nat.blt k 20 then q19 else bif Nat.blt k 21 then q20 else bif Nat.blt k 22 then q21 else bif Nat.blt k 23 then q22 else q23, rfl, rfl⟩
