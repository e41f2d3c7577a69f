theorem kb2_6 : (Int8.ofInt (6)).toInt32 = (6 : Int32) := by decide
theorem kb2_7 : (Int8.ofInt (7)).toInt32 = (7 : Int32) := by decide
theorem kb2_8 : (Int8.ofInt (8)).toInt32 = (8 : Int32) := by decide
theorem kb2_9 : (Int8.ofInt (9)).toInt32 = (9 : Int32) := by decide
theorem kb2_10 : (Int8.ofInt (10)).toInt32 = (10 : Int32) := by decide
theorem kb2_14 : (Int8.ofInt (14)).toInt32 = (14 : Int32) := by decide
theorem kb2_16 : (Int8.ofInt (16)).toInt32 = (16 : Int32) := by decide
theorem kb2_24 : (Int8.ofInt (24)).toInt32 = (24 : Int32) := by decide
theorem kb2_28 : (Int8.ofInt (28)).toInt32 = (28 : Int32) := by decide
theorem kb2_30 : (Int8.ofInt (30)).toInt32 = (30 : Int32) := by decide
theorem kb2_36 : (Int8.ofInt (36)).toInt32 = (36 : Int32) := by decide
theorem kb2_40 : (Int8.ofInt (40)).toInt32 = (40 : Int32) := by decide
theorem kb2_48 : (Int8.ofInt (48)).toInt32 = (48 : Int32) := by decide
theorem kb2_90 : (Int8.ofInt (90)).toInt32 = (90 : Int32) := by decide
theorem kb2_96 : (Int8.ofInt (96)).toInt32 = (96 : Int32) := by decide
theorem kb2_108 : (Int8.ofInt (108)).toInt32 = (108 : Int32) := by decide
theorem kb2_120 : (Int8.ofInt (120)).toInt32 = (120 : Int32) := by decide
theorem ki2_m1 : Int32.ofInt (-1) = (-1 : Int32) := by decide
theorem ki2_0 : Int32.ofInt (0) = (0 : Int32) := by decide
theorem ki2_1 : Int32.ofInt (1) = (1 : Int32) := by decide
theorem ki2_2 : Int32.ofInt (2) = (2 : Int32) := by decide
theorem ki2_3 : Int32.ofInt (3) = (3 : Int32) := by decide
theorem ki2_4 : Int32.ofInt (4) = (4 : Int32) := by decide
theorem ki2_5 : Int32.ofInt (5) = (5 : Int32) := by decide
theorem ks2_148 : (Int16.ofInt (148)).toInt32 = (148 : Int32) := by decide
theorem ks2_169 : (Int16.ofInt (169)).toInt32 = (169 : Int32) := by decide
theorem ks2_290 : (Int16.ofInt (290)).toInt32 = (290 : Int32) := by decide
theorem ks2_400 : (Int16.ofInt (400)).toInt32 = (400 : Int32) := by decide
theorem ks2_580 : (Int16.ofInt (580)).toInt32 = (580 : Int32) := by decide
theorem ks2_781 : (Int16.ofInt (781)).toInt32 = (781 : Int32) := by decide
theorem ks2_940 : (Int16.ofInt (940)).toInt32 = (940 : Int32) := by decide
theorem ks2_941 : (Int16.ofInt (941)).toInt32 = (941 : Int32) := by decide
theorem ks2_2343 : (Int16.ofInt (2343)).toInt32 = (2343 : Int32) := by decide
theorem RC_mono {E : XE} {c s c1 s1 : Nat} (h : RC E c s) (h1 : c1 ≤ c) (h2 : s1 ≤ s) : RC E c1 s1 := by
  obtain ⟨p, l, e, R, s, m, args, below, meth, cc, A, G⟩ := E
  exact ⟨Nat.le_trans h1 h.1, Nat.le_trans h2 h.2⟩
theorem dX0_init_0 : decode cX0_init 0 = .ok (.aload_n 0, 1) := by decide +kernel
theorem dX0_init_1 : decode cX0_init 1 = .ok (.invokespecial 3, 3) := by decide +kernel
theorem dX0_init_4 : decode cX0_init 4 = .ok (.aload_n 0, 1) := by decide +kernel
theorem dX0_init_5 : decode cX0_init 5 = .ok (.new 9, 3) := by decide +kernel
theorem dX0_init_8 : decode cX0_init 8 = .ok (.dup, 1) := by decide +kernel
theorem dX0_init_9 : decode cX0_init 9 = .ok (.invokespecial 11, 3) := by decide +kernel
theorem dX0_init_12 : decode cX0_init 12 = .ok (.putfield 12, 3) := by decide +kernel
theorem dX0_init_15 : decode cX0_init 15 = .ok (.aload_n 0, 1) := by decide +kernel
theorem dX0_init_16 : decode cX0_init 16 = .ok (.iconst 0, 1) := by decide +kernel
theorem dX0_init_17 : decode cX0_init 17 = .ok (.putfield 18, 3) := by decide +kernel
theorem dX0_init_20 : decode cX0_init 20 = .ok (.aload_n 0, 1) := by decide +kernel
theorem dX0_init_21 : decode cX0_init 21 = .ok (.iconst 0, 1) := by decide +kernel
theorem dX0_init_22 : decode cX0_init 22 = .ok (.putfield 22, 3) := by decide +kernel
theorem dX0_init_25 : decode cX0_init 25 = .ok (.aload_n 0, 1) := by decide +kernel
theorem dX0_init_26 : decode cX0_init 26 = .ok (.iconst 0, 1) := by decide +kernel
theorem dX0_init_27 : decode cX0_init 27 = .ok (.putfield 25, 3) := by decide +kernel
theorem dX0_init_30 : decode cX0_init 30 = .ok (.return_, 1) := by decide +kernel
theorem dX1_init_0 : decode cX1_init 0 = .ok (.aload_n 0, 1) := by decide +kernel
theorem dX1_init_1 : decode cX1_init 1 = .ok (.invokespecial 3, 3) := by decide +kernel
theorem dX1_init_4 : decode cX1_init 4 = .ok (.aload_n 0, 1) := by decide +kernel
theorem dX1_init_5 : decode cX1_init 5 = .ok (.iconst 0, 1) := by decide +kernel
theorem dX1_init_6 : decode cX1_init 6 = .ok (.putfield 9, 3) := by decide +kernel
theorem dX1_init_9 : decode cX1_init 9 = .ok (.aload_n 0, 1) := by decide +kernel
theorem dX1_init_10 : decode cX1_init 10 = .ok (.iconst 0, 1) := by decide +kernel
theorem dX1_init_11 : decode cX1_init 11 = .ok (.putfield 15, 3) := by decide +kernel
theorem dX1_init_14 : decode cX1_init 14 = .ok (.aload_n 0, 1) := by decide +kernel
theorem dX1_init_15 : decode cX1_init 15 = .ok (.iconst 3, 1) := by decide +kernel
theorem dX1_init_16 : decode cX1_init 16 = .ok (.newarray .long, 2) := by decide +kernel
theorem dX1_init_18 : decode cX1_init 18 = .ok (.putfield 18, 3) := by decide +kernel
theorem dX1_init_21 : decode cX1_init 21 = .ok (.aload_n 0, 1) := by decide +kernel
theorem dX1_init_22 : decode cX1_init 22 = .ok (.iconst 3, 1) := by decide +kernel
theorem dX1_init_23 : decode cX1_init 23 = .ok (.newarray .int, 2) := by decide +kernel
theorem dX1_init_25 : decode cX1_init 25 = .ok (.putfield 22, 3) := by decide +kernel
theorem dX1_init_28 : decode cX1_init 28 = .ok (.aload_n 0, 1) := by decide +kernel
theorem dX1_init_29 : decode cX1_init 29 = .ok (.iconst 3, 1) := by decide +kernel
theorem dX1_init_30 : decode cX1_init 30 = .ok (.newarray .int, 2) := by decide +kernel
theorem dX1_init_32 : decode cX1_init 32 = .ok (.putfield 26, 3) := by decide +kernel
theorem dX1_init_35 : decode cX1_init 35 = .ok (.aload_n 0, 1) := by decide +kernel
theorem dX1_init_36 : decode cX1_init 36 = .ok (.iconst 3, 1) := by decide +kernel
theorem dX1_init_37 : decode cX1_init 37 = .ok (.newarray .int, 2) := by decide +kernel
theorem dX1_init_39 : decode cX1_init 39 = .ok (.putfield 29, 3) := by decide +kernel
theorem dX1_init_42 : decode cX1_init 42 = .ok (.aload_n 0, 1) := by decide +kernel
theorem dX1_init_43 : decode cX1_init 43 = .ok (.iconst 4, 1) := by decide +kernel
theorem dX1_init_44 : decode cX1_init 44 = .ok (.newarray .long, 2) := by decide +kernel
theorem dX1_init_46 : decode cX1_init 46 = .ok (.putfield 32, 3) := by decide +kernel
theorem dX1_init_49 : decode cX1_init 49 = .ok (.aload_n 0, 1) := by decide +kernel
theorem dX1_init_50 : decode cX1_init 50 = .ok (.iconst 4, 1) := by decide +kernel
theorem dX1_init_51 : decode cX1_init 51 = .ok (.newarray .int, 2) := by decide +kernel
theorem dX1_init_53 : decode cX1_init 53 = .ok (.putfield 35, 3) := by decide +kernel
theorem dX1_init_56 : decode cX1_init 56 = .ok (.aload_n 0, 1) := by decide +kernel
theorem dX1_init_57 : decode cX1_init 57 = .ok (.iconst 4, 1) := by decide +kernel
theorem dX1_init_58 : decode cX1_init 58 = .ok (.newarray .int, 2) := by decide +kernel
theorem dX1_init_60 : decode cX1_init 60 = .ok (.putfield 38, 3) := by decide +kernel
theorem dX1_init_63 : decode cX1_init 63 = .ok (.aload_n 0, 1) := by decide +kernel
theorem dX1_init_64 : decode cX1_init 64 = .ok (.bipush 120, 2) := by decide +kernel
theorem dX1_init_66 : decode cX1_init 66 = .ok (.newarray .int, 2) := by decide +kernel
theorem dX1_init_68 : decode cX1_init 68 = .ok (.putfield 41, 3) := by decide +kernel
theorem dX1_init_71 : decode cX1_init 71 = .ok (.aload_n 0, 1) := by decide +kernel
theorem dX1_init_72 : decode cX1_init 72 = .ok (.bipush 30, 2) := by decide +kernel
theorem dX1_init_74 : decode cX1_init 74 = .ok (.newarray .int, 2) := by decide +kernel
theorem dX1_init_76 : decode cX1_init 76 = .ok (.putfield 44, 3) := by decide +kernel
theorem dX1_init_79 : decode cX1_init 79 = .ok (.aload_n 0, 1) := by decide +kernel
theorem dX1_init_80 : decode cX1_init 80 = .ok (.new 47, 3) := by decide +kernel
theorem dX1_init_83 : decode cX1_init 83 = .ok (.dup, 1) := by decide +kernel
theorem dX1_init_84 : decode cX1_init 84 = .ok (.invokespecial 49, 3) := by decide +kernel
theorem dX1_init_87 : decode cX1_init 87 = .ok (.putfield 50, 3) := by decide +kernel
theorem dX1_init_90 : decode cX1_init 90 = .ok (.aload_n 0, 1) := by decide +kernel
theorem dX1_init_91 : decode cX1_init 91 = .ok (.getfield 44, 3) := by decide +kernel
theorem dX1_init_94 : decode cX1_init 94 = .ok (.iconst (-1), 1) := by decide +kernel
theorem dX1_init_95 : decode cX1_init 95 = .ok (.invokestatic 54, 3) := by decide +kernel
theorem dX1_init_98 : decode cX1_init 98 = .ok (.return_, 1) := by decide +kernel
theorem dX2_init_0 : decode cX2_init 0 = .ok (.aload_n 0, 1) := by decide +kernel
theorem dX2_init_1 : decode cX2_init 1 = .ok (.invokespecial 3, 3) := by decide +kernel
theorem dX2_init_4 : decode cX2_init 4 = .ok (.aload_n 0, 1) := by decide +kernel
theorem dX2_init_5 : decode cX2_init 5 = .ok (.new 9, 3) := by decide +kernel
theorem dX2_init_8 : decode cX2_init 8 = .ok (.dup, 1) := by decide +kernel
theorem dX2_init_9 : decode cX2_init 9 = .ok (.invokespecial 11, 3) := by decide +kernel
theorem dX2_init_12 : decode cX2_init 12 = .ok (.putfield 12, 3) := by decide +kernel
theorem dX2_init_15 : decode cX2_init 15 = .ok (.aload_n 0, 1) := by decide +kernel
theorem dX2_init_16 : decode cX2_init 16 = .ok (.iconst 4, 1) := by decide +kernel
theorem dX2_init_17 : decode cX2_init 17 = .ok (.newarray .int, 2) := by decide +kernel
theorem dX2_init_19 : decode cX2_init 19 = .ok (.putfield 18, 3) := by decide +kernel
theorem dX2_init_22 : decode cX2_init 22 = .ok (.aload_n 0, 1) := by decide +kernel
theorem dX2_init_23 : decode cX2_init 23 = .ok (.aload_n 1, 1) := by decide +kernel
theorem dX2_init_24 : decode cX2_init 24 = .ok (.putfield 22, 3) := by decide +kernel
theorem dX2_init_27 : decode cX2_init 27 = .ok (.return_, 1) := by decide +kernel
theorem dX3_init_0 : decode cX3_init 0 = .ok (.aload_n 0, 1) := by decide +kernel
theorem dX3_init_1 : decode cX3_init 1 = .ok (.invokespecial 3, 3) := by decide +kernel
theorem dX3_init_4 : decode cX3_init 4 = .ok (.aload_n 0, 1) := by decide +kernel
theorem dX3_init_5 : decode cX3_init 5 = .ok (.bipush 30, 2) := by decide +kernel
theorem dX3_init_7 : decode cX3_init 7 = .ok (.newarray .int, 2) := by decide +kernel
theorem dX3_init_9 : decode cX3_init 9 = .ok (.putfield 9, 3) := by decide +kernel
theorem dX3_init_12 : decode cX3_init 12 = .ok (.aload_n 0, 1) := by decide +kernel
theorem dX3_init_13 : decode cX3_init 13 = .ok (.aload_n 1, 1) := by decide +kernel
theorem dX3_init_14 : decode cX3_init 14 = .ok (.putfield 15, 3) := by decide +kernel
theorem dX3_init_17 : decode cX3_init 17 = .ok (.return_, 1) := by decide +kernel
theorem dX4_init_0 : decode cX4_init 0 = .ok (.aload_n 0, 1) := by decide +kernel
theorem dX4_init_1 : decode cX4_init 1 = .ok (.invokespecial 3, 3) := by decide +kernel
theorem dX4_init_4 : decode cX4_init 4 = .ok (.aload_n 0, 1) := by decide +kernel
theorem dX4_init_5 : decode cX4_init 5 = .ok (.iconst 0, 1) := by decide +kernel
theorem dX4_init_6 : decode cX4_init 6 = .ok (.putfield 9, 3) := by decide +kernel
theorem dX4_init_9 : decode cX4_init 9 = .ok (.aload_n 0, 1) := by decide +kernel
theorem dX4_init_10 : decode cX4_init 10 = .ok (.iconst (-1), 1) := by decide +kernel
theorem dX4_init_11 : decode cX4_init 11 = .ok (.putfield 15, 3) := by decide +kernel
theorem dX4_init_14 : decode cX4_init 14 = .ok (.aload_n 0, 1) := by decide +kernel
theorem dX4_init_15 : decode cX4_init 15 = .ok (.iconst (-1), 1) := by decide +kernel
theorem dX4_init_16 : decode cX4_init 16 = .ok (.putfield 18, 3) := by decide +kernel
theorem dX4_init_19 : decode cX4_init 19 = .ok (.aload_n 0, 1) := by decide +kernel
theorem dX4_init_20 : decode cX4_init 20 = .ok (.sipush 148, 3) := by decide +kernel
theorem dX4_init_23 : decode cX4_init 23 = .ok (.newarray .int, 2) := by decide +kernel
theorem dX4_init_25 : decode cX4_init 25 = .ok (.putfield 21, 3) := by decide +kernel
theorem dX4_init_28 : decode cX4_init 28 = .ok (.aload_n 0, 1) := by decide +kernel
theorem dX4_init_29 : decode cX4_init 29 = .ok (.iconst 0, 1) := by decide +kernel
theorem dX4_init_30 : decode cX4_init 30 = .ok (.putfield 25, 3) := by decide +kernel
theorem dX4_init_33 : decode cX4_init 33 = .ok (.aload_n 0, 1) := by decide +kernel
theorem dX4_init_34 : decode cX4_init 34 = .ok (.bipush 36, 2) := by decide +kernel
theorem dX4_init_36 : decode cX4_init 36 = .ok (.newarray .int, 2) := by decide +kernel
theorem dX4_init_38 : decode cX4_init 38 = .ok (.putfield 28, 3) := by decide +kernel
theorem dX4_init_41 : decode cX4_init 41 = .ok (.return_, 1) := by decide +kernel
theorem dX5_init_0 : decode cX5_init 0 = .ok (.aload_n 0, 1) := by decide +kernel
theorem dX5_init_1 : decode cX5_init 1 = .ok (.invokespecial 3, 3) := by decide +kernel
theorem dX5_init_4 : decode cX5_init 4 = .ok (.aload_n 0, 1) := by decide +kernel
theorem dX5_init_5 : decode cX5_init 5 = .ok (.iconst 0, 1) := by decide +kernel
theorem dX5_init_6 : decode cX5_init 6 = .ok (.putfield 9, 3) := by decide +kernel
theorem dX5_init_9 : decode cX5_init 9 = .ok (.aload_n 0, 1) := by decide +kernel
theorem dX5_init_10 : decode cX5_init 10 = .ok (.bipush 40, 2) := by decide +kernel
theorem dX5_init_12 : decode cX5_init 12 = .ok (.newarray .int, 2) := by decide +kernel
theorem dX5_init_14 : decode cX5_init 14 = .ok (.putfield 15, 3) := by decide +kernel
theorem dX5_init_17 : decode cX5_init 17 = .ok (.aload_n 0, 1) := by decide +kernel
theorem dX5_init_18 : decode cX5_init 18 = .ok (.bipush 40, 2) := by decide +kernel
theorem dX5_init_20 : decode cX5_init 20 = .ok (.newarray .int, 2) := by decide +kernel
theorem dX5_init_22 : decode cX5_init 22 = .ok (.putfield 19, 3) := by decide +kernel
theorem dX5_init_25 : decode cX5_init 25 = .ok (.aload_n 0, 1) := by decide +kernel
theorem dX5_init_26 : decode cX5_init 26 = .ok (.bipush 40, 2) := by decide +kernel
theorem dX5_init_28 : decode cX5_init 28 = .ok (.newarray .int, 2) := by decide +kernel
theorem dX5_init_30 : decode cX5_init 30 = .ok (.putfield 22, 3) := by decide +kernel
theorem dX5_init_33 : decode cX5_init 33 = .ok (.return_, 1) := by decide +kernel
theorem dX6_init_0 : decode cX6_init 0 = .ok (.aload_n 0, 1) := by decide +kernel
theorem dX6_init_1 : decode cX6_init 1 = .ok (.invokespecial 3, 3) := by decide +kernel
theorem dX6_init_4 : decode cX6_init 4 = .ok (.aload_n 0, 1) := by decide +kernel
theorem dX6_init_5 : decode cX6_init 5 = .ok (.new 9, 3) := by decide +kernel
theorem dX6_init_8 : decode cX6_init 8 = .ok (.dup, 1) := by decide +kernel
theorem dX6_init_9 : decode cX6_init 9 = .ok (.invokespecial 11, 3) := by decide +kernel
theorem dX6_init_12 : decode cX6_init 12 = .ok (.putfield 12, 3) := by decide +kernel
theorem dX6_init_15 : decode cX6_init 15 = .ok (.aload_n 0, 1) := by decide +kernel
theorem dX6_init_16 : decode cX6_init 16 = .ok (.aload_n 1, 1) := by decide +kernel
theorem dX6_init_17 : decode cX6_init 17 = .ok (.putfield 18, 3) := by decide +kernel
theorem dX6_init_20 : decode cX6_init 20 = .ok (.return_, 1) := by decide +kernel
theorem dX7_init_0 : decode cX7_init 0 = .ok (.aload_n 0, 1) := by decide +kernel
theorem dX7_init_1 : decode cX7_init 1 = .ok (.invokespecial 3, 3) := by decide +kernel
theorem dX7_init_4 : decode cX7_init 4 = .ok (.aload_n 0, 1) := by decide +kernel
theorem dX7_init_5 : decode cX7_init 5 = .ok (.iconst 0, 1) := by decide +kernel
theorem dX7_init_6 : decode cX7_init 6 = .ok (.putfield 9, 3) := by decide +kernel
theorem dX7_init_9 : decode cX7_init 9 = .ok (.aload_n 0, 1) := by decide +kernel
theorem dX7_init_10 : decode cX7_init 10 = .ok (.sipush 941, 3) := by decide +kernel
theorem dX7_init_13 : decode cX7_init 13 = .ok (.newarray .int, 2) := by decide +kernel
theorem dX7_init_15 : decode cX7_init 15 = .ok (.putfield 15, 3) := by decide +kernel
theorem dX7_init_18 : decode cX7_init 18 = .ok (.aload_n 0, 1) := by decide +kernel
theorem dX7_init_19 : decode cX7_init 19 = .ok (.sipush 941, 3) := by decide +kernel
theorem dX7_init_22 : decode cX7_init 22 = .ok (.newarray .int, 2) := by decide +kernel
theorem dX7_init_24 : decode cX7_init 24 = .ok (.putfield 19, 3) := by decide +kernel
theorem dX7_init_27 : decode cX7_init 27 = .ok (.aload_n 0, 1) := by decide +kernel
theorem dX7_init_28 : decode cX7_init 28 = .ok (.sipush 941, 3) := by decide +kernel
theorem dX7_init_31 : decode cX7_init 31 = .ok (.newarray .long, 2) := by decide +kernel
theorem dX7_init_33 : decode cX7_init 33 = .ok (.putfield 22, 3) := by decide +kernel
theorem dX7_init_36 : decode cX7_init 36 = .ok (.return_, 1) := by decide +kernel
theorem dX8_init_0 : decode cX8_init 0 = .ok (.aload_n 0, 1) := by decide +kernel
theorem dX8_init_1 : decode cX8_init 1 = .ok (.invokespecial 3, 3) := by decide +kernel
theorem dX8_init_4 : decode cX8_init 4 = .ok (.aload_n 0, 1) := by decide +kernel
theorem dX8_init_5 : decode cX8_init 5 = .ok (.bipush 48, 2) := by decide +kernel
theorem dX8_init_7 : decode cX8_init 7 = .ok (.newarray .long, 2) := by decide +kernel
theorem dX8_init_9 : decode cX8_init 9 = .ok (.putfield 11, 3) := by decide +kernel
theorem dX8_init_12 : decode cX8_init 12 = .ok (.aload_n 0, 1) := by decide +kernel
theorem dX8_init_13 : decode cX8_init 13 = .ok (.iconst 0, 1) := by decide +kernel
theorem dX8_init_14 : decode cX8_init 14 = .ok (.putfield 15, 3) := by decide +kernel
theorem dX8_init_17 : decode cX8_init 17 = .ok (.aload_n 0, 1) := by decide +kernel
theorem dX8_init_18 : decode cX8_init 18 = .ok (.bipush 8, 2) := by decide +kernel
theorem dX8_init_20 : decode cX8_init 20 = .ok (.newarray .int, 2) := by decide +kernel
theorem dX8_init_22 : decode cX8_init 22 = .ok (.putfield 19, 3) := by decide +kernel
theorem dX8_init_25 : decode cX8_init 25 = .ok (.aload_n 0, 1) := by decide +kernel
theorem dX8_init_26 : decode cX8_init 26 = .ok (.bipush 24, 2) := by decide +kernel
theorem dX8_init_28 : decode cX8_init 28 = .ok (.newarray .long, 2) := by decide +kernel
theorem dX8_init_30 : decode cX8_init 30 = .ok (.putfield 23, 3) := by decide +kernel
theorem dX8_init_33 : decode cX8_init 33 = .ok (.aload_n 0, 1) := by decide +kernel
theorem dX8_init_34 : decode cX8_init 34 = .ok (.iconst 0, 1) := by decide +kernel
theorem dX8_init_35 : decode cX8_init 35 = .ok (.putfield 26, 3) := by decide +kernel
theorem dX8_init_38 : decode cX8_init 38 = .ok (.aload_n 0, 1) := by decide +kernel
theorem dX8_init_39 : decode cX8_init 39 = .ok (.iconst 0, 1) := by decide +kernel
theorem dX8_init_40 : decode cX8_init 40 = .ok (.putfield 29, 3) := by decide +kernel
theorem dX8_init_43 : decode cX8_init 43 = .ok (.aload_n 0, 1) := by decide +kernel
theorem dX8_init_44 : decode cX8_init 44 = .ok (.sipush 781, 3) := by decide +kernel
theorem dX8_init_47 : decode cX8_init 47 = .ok (.newarray .int, 2) := by decide +kernel
theorem dX8_init_49 : decode cX8_init 49 = .ok (.putfield 32, 3) := by decide +kernel
theorem dX8_init_52 : decode cX8_init 52 = .ok (.aload_n 0, 1) := by decide +kernel
theorem dX8_init_53 : decode cX8_init 53 = .ok (.sipush 2343, 3) := by decide +kernel
theorem dX8_init_56 : decode cX8_init 56 = .ok (.newarray .long, 2) := by decide +kernel
theorem dX8_init_58 : decode cX8_init 58 = .ok (.putfield 35, 3) := by decide +kernel
theorem dX8_init_61 : decode cX8_init 61 = .ok (.aload_n 0, 1) := by decide +kernel
theorem dX8_init_62 : decode cX8_init 62 = .ok (.iconst 3, 1) := by decide +kernel
theorem dX8_init_63 : decode cX8_init 63 = .ok (.newarray .long, 2) := by decide +kernel
theorem dX8_init_65 : decode cX8_init 65 = .ok (.putfield 38, 3) := by decide +kernel
theorem dX8_init_68 : decode cX8_init 68 = .ok (.aload_n 0, 1) := by decide +kernel
theorem dX8_init_69 : decode cX8_init 69 = .ok (.iconst 3, 1) := by decide +kernel
theorem dX8_init_70 : decode cX8_init 70 = .ok (.newarray .long, 2) := by decide +kernel
theorem dX8_init_72 : decode cX8_init 72 = .ok (.putfield 41, 3) := by decide +kernel
theorem dX8_init_75 : decode cX8_init 75 = .ok (.aload_n 0, 1) := by decide +kernel
theorem dX8_init_76 : decode cX8_init 76 = .ok (.iconst 3, 1) := by decide +kernel
theorem dX8_init_77 : decode cX8_init 77 = .ok (.newarray .long, 2) := by decide +kernel
theorem dX8_init_79 : decode cX8_init 79 = .ok (.putfield 44, 3) := by decide +kernel
theorem dX8_init_82 : decode cX8_init 82 = .ok (.aload_n 0, 1) := by decide +kernel
theorem dX8_init_83 : decode cX8_init 83 = .ok (.bipush 8, 2) := by decide +kernel
theorem dX8_init_85 : decode cX8_init 85 = .ok (.newarray .long, 2) := by decide +kernel
theorem dX8_init_87 : decode cX8_init 87 = .ok (.putfield 47, 3) := by decide +kernel
theorem dX8_init_90 : decode cX8_init 90 = .ok (.aload_n 0, 1) := by decide +kernel
theorem dX8_init_91 : decode cX8_init 91 = .ok (.bipush 8, 2) := by decide +kernel
theorem dX8_init_93 : decode cX8_init 93 = .ok (.newarray .long, 2) := by decide +kernel
theorem dX8_init_95 : decode cX8_init 95 = .ok (.putfield 50, 3) := by decide +kernel
theorem dX8_init_98 : decode cX8_init 98 = .ok (.aload_n 0, 1) := by decide +kernel
theorem dX8_init_99 : decode cX8_init 99 = .ok (.aload_n 1, 1) := by decide +kernel
theorem dX8_init_100 : decode cX8_init 100 = .ok (.putfield 53, 3) := by decide +kernel
theorem dX8_init_103 : decode cX8_init 103 = .ok (.return_, 1) := by decide +kernel
theorem dX9_init_0 : decode cX9_init 0 = .ok (.aload_n 0, 1) := by decide +kernel
theorem dX9_init_1 : decode cX9_init 1 = .ok (.invokespecial 3, 3) := by decide +kernel
theorem dX9_init_4 : decode cX9_init 4 = .ok (.aload_n 0, 1) := by decide +kernel
theorem dX9_init_5 : decode cX9_init 5 = .ok (.sipush 940, 3) := by decide +kernel
theorem dX9_init_8 : decode cX9_init 8 = .ok (.newarray .int, 2) := by decide +kernel
theorem dX9_init_10 : decode cX9_init 10 = .ok (.putfield 9, 3) := by decide +kernel
theorem dX9_init_13 : decode cX9_init 13 = .ok (.aload_n 0, 1) := by decide +kernel
theorem dX9_init_14 : decode cX9_init 14 = .ok (.iconst 0, 1) := by decide +kernel
theorem dX9_init_15 : decode cX9_init 15 = .ok (.putfield 13, 3) := by decide +kernel
theorem dX9_init_18 : decode cX9_init 18 = .ok (.aload_n 0, 1) := by decide +kernel
theorem dX9_init_19 : decode cX9_init 19 = .ok (.iconst 0, 1) := by decide +kernel
theorem dX9_init_20 : decode cX9_init 20 = .ok (.putfield 17, 3) := by decide +kernel
theorem dX9_init_23 : decode cX9_init 23 = .ok (.aload_n 0, 1) := by decide +kernel
theorem dX9_init_24 : decode cX9_init 24 = .ok (.new 20, 3) := by decide +kernel
theorem dX9_init_27 : decode cX9_init 27 = .ok (.dup, 1) := by decide +kernel
theorem dX9_init_28 : decode cX9_init 28 = .ok (.invokespecial 22, 3) := by decide +kernel
theorem dX9_init_31 : decode cX9_init 31 = .ok (.putfield 23, 3) := by decide +kernel
theorem dX9_init_34 : decode cX9_init 34 = .ok (.aload_n 0, 1) := by decide +kernel
theorem dX9_init_35 : decode cX9_init 35 = .ok (.new 20, 3) := by decide +kernel
theorem dX9_init_38 : decode cX9_init 38 = .ok (.dup, 1) := by decide +kernel
theorem dX9_init_39 : decode cX9_init 39 = .ok (.invokespecial 22, 3) := by decide +kernel
theorem dX9_init_42 : decode cX9_init 42 = .ok (.putfield 27, 3) := by decide +kernel
theorem dX9_init_45 : decode cX9_init 45 = .ok (.aload_n 0, 1) := by decide +kernel
theorem dX9_init_46 : decode cX9_init 46 = .ok (.new 20, 3) := by decide +kernel
theorem dX9_init_49 : decode cX9_init 49 = .ok (.dup, 1) := by decide +kernel
theorem dX9_init_50 : decode cX9_init 50 = .ok (.invokespecial 22, 3) := by decide +kernel
theorem dX9_init_53 : decode cX9_init 53 = .ok (.putfield 30, 3) := by decide +kernel
theorem dX9_init_56 : decode cX9_init 56 = .ok (.aload_n 0, 1) := by decide +kernel
theorem dX9_init_57 : decode cX9_init 57 = .ok (.iconst 0, 1) := by decide +kernel
theorem dX9_init_58 : decode cX9_init 58 = .ok (.putfield 33, 3) := by decide +kernel
theorem dX9_init_61 : decode cX9_init 61 = .ok (.aload_n 0, 1) := by decide +kernel
theorem dX9_init_62 : decode cX9_init 62 = .ok (.new 36, 3) := by decide +kernel
theorem dX9_init_65 : decode cX9_init 65 = .ok (.dup, 1) := by decide +kernel
theorem dX9_init_66 : decode cX9_init 66 = .ok (.invokespecial 38, 3) := by decide +kernel
theorem dX9_init_69 : decode cX9_init 69 = .ok (.putfield 39, 3) := by decide +kernel
theorem dX9_init_72 : decode cX9_init 72 = .ok (.aload_n 0, 1) := by decide +kernel
theorem dX9_init_73 : decode cX9_init 73 = .ok (.new 43, 3) := by decide +kernel
theorem dX9_init_76 : decode cX9_init 76 = .ok (.dup, 1) := by decide +kernel
theorem dX9_init_77 : decode cX9_init 77 = .ok (.aload_n 0, 1) := by decide +kernel
theorem dX9_init_78 : decode cX9_init 78 = .ok (.getfield 39, 3) := by decide +kernel
theorem dX9_init_81 : decode cX9_init 81 = .ok (.invokespecial 45, 3) := by decide +kernel
theorem dX9_init_84 : decode cX9_init 84 = .ok (.putfield 48, 3) := by decide +kernel
theorem dX9_init_87 : decode cX9_init 87 = .ok (.aload_n 0, 1) := by decide +kernel
theorem dX9_init_88 : decode cX9_init 88 = .ok (.new 52, 3) := by decide +kernel
theorem dX9_init_91 : decode cX9_init 91 = .ok (.dup, 1) := by decide +kernel
theorem dX9_init_92 : decode cX9_init 92 = .ok (.aload_n 0, 1) := by decide +kernel
theorem dX9_init_93 : decode cX9_init 93 = .ok (.getfield 39, 3) := by decide +kernel
theorem dX9_init_96 : decode cX9_init 96 = .ok (.invokespecial 54, 3) := by decide +kernel
theorem dX9_init_99 : decode cX9_init 99 = .ok (.putfield 55, 3) := by decide +kernel
theorem dX9_init_102 : decode cX9_init 102 = .ok (.aload_n 0, 1) := by decide +kernel
theorem dX9_init_103 : decode cX9_init 103 = .ok (.new 59, 3) := by decide +kernel
theorem dX9_init_106 : decode cX9_init 106 = .ok (.dup, 1) := by decide +kernel
theorem dX9_init_107 : decode cX9_init 107 = .ok (.aload_n 0, 1) := by decide +kernel
theorem dX9_init_108 : decode cX9_init 108 = .ok (.getfield 39, 3) := by decide +kernel
theorem dX9_init_111 : decode cX9_init 111 = .ok (.invokespecial 61, 3) := by decide +kernel
theorem dX9_init_114 : decode cX9_init 114 = .ok (.putfield 62, 3) := by decide +kernel
theorem dX9_init_117 : decode cX9_init 117 = .ok (.aload_n 0, 1) := by decide +kernel
theorem dX9_init_118 : decode cX9_init 118 = .ok (.new 66, 3) := by decide +kernel
theorem dX9_init_121 : decode cX9_init 121 = .ok (.dup, 1) := by decide +kernel
theorem dX9_init_122 : decode cX9_init 122 = .ok (.aload_n 0, 1) := by decide +kernel
theorem dX9_init_123 : decode cX9_init 123 = .ok (.getfield 23, 3) := by decide +kernel
theorem dX9_init_126 : decode cX9_init 126 = .ok (.invokespecial 68, 3) := by decide +kernel
theorem dX9_init_129 : decode cX9_init 129 = .ok (.putfield 71, 3) := by decide +kernel
theorem dX9_init_132 : decode cX9_init 132 = .ok (.aload_n 0, 1) := by decide +kernel
theorem dX9_init_133 : decode cX9_init 133 = .ok (.new 75, 3) := by decide +kernel
theorem dX9_init_136 : decode cX9_init 136 = .ok (.dup, 1) := by decide +kernel
theorem dX9_init_137 : decode cX9_init 137 = .ok (.invokespecial 77, 3) := by decide +kernel
theorem dX9_init_140 : decode cX9_init 140 = .ok (.putfield 78, 3) := by decide +kernel
theorem dX9_init_143 : decode cX9_init 143 = .ok (.return_, 1) := by decide +kernel
theorem dX10_init_0 : decode cX10_init 0 = .ok (.aload_n 0, 1) := by decide +kernel
theorem dX10_init_1 : decode cX10_init 1 = .ok (.invokespecial 35, 3) := by decide +kernel
theorem dX10_init_4 : decode cX10_init 4 = .ok (.aload_n 0, 1) := by decide +kernel
theorem dX10_init_5 : decode cX10_init 5 = .ok (.sipush 940, 3) := by decide +kernel
theorem dX10_init_8 : decode cX10_init 8 = .ok (.newarray .byte, 2) := by decide +kernel
theorem dX10_init_10 : decode cX10_init 10 = .ok (.putfield 14, 3) := by decide +kernel
theorem dX10_init_13 : decode cX10_init 13 = .ok (.aload_n 0, 1) := by decide +kernel
theorem dX10_init_14 : decode cX10_init 14 = .ok (.sipush 290, 3) := by decide +kernel
theorem dX10_init_17 : decode cX10_init 17 = .ok (.newarray .int, 2) := by decide +kernel
theorem dX10_init_19 : decode cX10_init 19 = .ok (.putfield 41, 3) := by decide +kernel
theorem dX10_init_22 : decode cX10_init 22 = .ok (.aload_n 0, 1) := by decide +kernel
theorem dX10_init_23 : decode cX10_init 23 = .ok (.sipush 169, 3) := by decide +kernel
theorem dX10_init_26 : decode cX10_init 26 = .ok (.newarray .int, 2) := by decide +kernel
theorem dX10_init_28 : decode cX10_init 28 = .ok (.putfield 45, 3) := by decide +kernel
theorem dX10_init_31 : decode cX10_init 31 = .ok (.aload_n 0, 1) := by decide +kernel
theorem dX10_init_32 : decode cX10_init 32 = .ok (.bipush 120, 2) := by decide +kernel
theorem dX10_init_34 : decode cX10_init 34 = .ok (.newarray .int, 2) := by decide +kernel
theorem dX10_init_36 : decode cX10_init 36 = .ok (.putfield 48, 3) := by decide +kernel
theorem dX10_init_39 : decode cX10_init 39 = .ok (.aload_n 0, 1) := by decide +kernel
theorem dX10_init_40 : decode cX10_init 40 = .ok (.bipush 30, 2) := by decide +kernel
theorem dX10_init_42 : decode cX10_init 42 = .ok (.newarray .int, 2) := by decide +kernel
theorem dX10_init_44 : decode cX10_init 44 = .ok (.putfield 51, 3) := by decide +kernel
theorem dX10_init_47 : decode cX10_init 47 = .ok (.aload_n 0, 1) := by decide +kernel
theorem dX10_init_48 : decode cX10_init 48 = .ok (.bipush 28, 2) := by decide +kernel
theorem dX10_init_50 : decode cX10_init 50 = .ok (.newarray .long, 2) := by decide +kernel
theorem dX10_init_52 : decode cX10_init 52 = .ok (.putfield 54, 3) := by decide +kernel
theorem dX10_init_55 : decode cX10_init 55 = .ok (.aload_n 0, 1) := by decide +kernel
theorem dX10_init_56 : decode cX10_init 56 = .ok (.bipush 10, 2) := by decide +kernel
theorem dX10_init_58 : decode cX10_init 58 = .ok (.newarray .long, 2) := by decide +kernel
theorem dX10_init_60 : decode cX10_init 60 = .ok (.putfield 58, 3) := by decide +kernel
theorem dX10_init_63 : decode cX10_init 63 = .ok (.aload_n 0, 1) := by decide +kernel
theorem dX10_init_64 : decode cX10_init 64 = .ok (.bipush 108, 2) := by decide +kernel
theorem dX10_init_66 : decode cX10_init 66 = .ok (.newarray .int, 2) := by decide +kernel
theorem dX10_init_68 : decode cX10_init 68 = .ok (.putfield 61, 3) := by decide +kernel
theorem dX10_init_71 : decode cX10_init 71 = .ok (.aload_n 0, 1) := by decide +kernel
theorem dX10_init_72 : decode cX10_init 72 = .ok (.iconst 3, 1) := by decide +kernel
theorem dX10_init_73 : decode cX10_init 73 = .ok (.newarray .int, 2) := by decide +kernel
theorem dX10_init_75 : decode cX10_init 75 = .ok (.putfield 64, 3) := by decide +kernel
theorem dX10_init_78 : decode cX10_init 78 = .ok (.aload_n 0, 1) := by decide +kernel
theorem dX10_init_79 : decode cX10_init 79 = .ok (.bipush 96, 2) := by decide +kernel
theorem dX10_init_81 : decode cX10_init 81 = .ok (.newarray .long, 2) := by decide +kernel
theorem dX10_init_83 : decode cX10_init 83 = .ok (.putfield 67, 3) := by decide +kernel
theorem dX10_init_86 : decode cX10_init 86 = .ok (.aload_n 0, 1) := by decide +kernel
theorem dX10_init_87 : decode cX10_init 87 = .ok (.iconst 3, 1) := by decide +kernel
theorem dX10_init_88 : decode cX10_init 88 = .ok (.newarray .long, 2) := by decide +kernel
theorem dX10_init_90 : decode cX10_init 90 = .ok (.putfield 70, 3) := by decide +kernel
theorem dX10_init_93 : decode cX10_init 93 = .ok (.aload_n 0, 1) := by decide +kernel
theorem dX10_init_94 : decode cX10_init 94 = .ok (.iconst 4, 1) := by decide +kernel
theorem dX10_init_95 : decode cX10_init 95 = .ok (.newarray .int, 2) := by decide +kernel
theorem dX10_init_97 : decode cX10_init 97 = .ok (.putfield 73, 3) := by decide +kernel
theorem dX10_init_100 : decode cX10_init 100 = .ok (.aload_n 0, 1) := by decide +kernel
theorem dX10_init_101 : decode cX10_init 101 = .ok (.bipush 90, 2) := by decide +kernel
theorem dX10_init_103 : decode cX10_init 103 = .ok (.newarray .long, 2) := by decide +kernel
theorem dX10_init_105 : decode cX10_init 105 = .ok (.putfield 76, 3) := by decide +kernel
theorem dX10_init_108 : decode cX10_init 108 = .ok (.aload_n 0, 1) := by decide +kernel
theorem dX10_init_109 : decode cX10_init 109 = .ok (.bipush 30, 2) := by decide +kernel
theorem dX10_init_111 : decode cX10_init 111 = .ok (.newarray .long, 2) := by decide +kernel
theorem dX10_init_113 : decode cX10_init 113 = .ok (.putfield 79, 3) := by decide +kernel
theorem dX10_init_116 : decode cX10_init 116 = .ok (.aload_n 0, 1) := by decide +kernel
theorem dX10_init_117 : decode cX10_init 117 = .ok (.bipush 16, 2) := by decide +kernel
theorem dX10_init_119 : decode cX10_init 119 = .ok (.newarray .boolean, 2) := by decide +kernel
theorem dX10_init_121 : decode cX10_init 121 = .ok (.putfield 82, 3) := by decide +kernel
theorem dX10_init_124 : decode cX10_init 124 = .ok (.aload_n 0, 1) := by decide +kernel
theorem dX10_init_125 : decode cX10_init 125 = .ok (.bipush 8, 2) := by decide +kernel
theorem dX10_init_127 : decode cX10_init 127 = .ok (.newarray .long, 2) := by decide +kernel
theorem dX10_init_129 : decode cX10_init 129 = .ok (.putfield 86, 3) := by decide +kernel
theorem dX10_init_132 : decode cX10_init 132 = .ok (.aload_n 0, 1) := by decide +kernel
theorem dX10_init_133 : decode cX10_init 133 = .ok (.bipush 48, 2) := by decide +kernel
theorem dX10_init_135 : decode cX10_init 135 = .ok (.newarray .long, 2) := by decide +kernel
theorem dX10_init_137 : decode cX10_init 137 = .ok (.putfield 89, 3) := by decide +kernel
theorem dX10_init_140 : decode cX10_init 140 = .ok (.aload_n 0, 1) := by decide +kernel
theorem dX10_init_141 : decode cX10_init 141 = .ok (.iconst 4, 1) := by decide +kernel
theorem dX10_init_142 : decode cX10_init 142 = .ok (.newarray .int, 2) := by decide +kernel
theorem dX10_init_144 : decode cX10_init 144 = .ok (.putfield 92, 3) := by decide +kernel
theorem dX10_init_147 : decode cX10_init 147 = .ok (.aload_n 0, 1) := by decide +kernel
theorem dX10_init_148 : decode cX10_init 148 = .ok (.sipush 400, 3) := by decide +kernel
theorem dX10_init_151 : decode cX10_init 151 = .ok (.newarray .int, 2) := by decide +kernel
theorem dX10_init_153 : decode cX10_init 153 = .ok (.putfield 95, 3) := by decide +kernel
theorem dX10_init_156 : decode cX10_init 156 = .ok (.aload_n 0, 1) := by decide +kernel
theorem dX10_init_157 : decode cX10_init 157 = .ok (.iconst 2, 1) := by decide +kernel
theorem dX10_init_158 : decode cX10_init 158 = .ok (.newarray .int, 2) := by decide +kernel
theorem dX10_init_160 : decode cX10_init 160 = .ok (.putfield 98, 3) := by decide +kernel
theorem dX10_init_163 : decode cX10_init 163 = .ok (.aload_n 0, 1) := by decide +kernel
theorem dX10_init_164 : decode cX10_init 164 = .ok (.sipush 580, 3) := by decide +kernel
theorem dX10_init_167 : decode cX10_init 167 = .ok (.newarray .int, 2) := by decide +kernel
theorem dX10_init_169 : decode cX10_init 169 = .ok (.putfield 101, 3) := by decide +kernel
theorem dX10_init_172 : decode cX10_init 172 = .ok (.aload_n 0, 1) := by decide +kernel
theorem dX10_init_173 : decode cX10_init 173 = .ok (.bipush 14, 2) := by decide +kernel
theorem dX10_init_175 : decode cX10_init 175 = .ok (.newarray .long, 2) := by decide +kernel
theorem dX10_init_177 : decode cX10_init 177 = .ok (.putfield 104, 3) := by decide +kernel
theorem dX10_init_180 : decode cX10_init 180 = .ok (.aload_n 0, 1) := by decide +kernel
theorem dX10_init_181 : decode cX10_init 181 = .ok (.iconst 2, 1) := by decide +kernel
theorem dX10_init_182 : decode cX10_init 182 = .ok (.newarray .boolean, 2) := by decide +kernel
theorem dX10_init_184 : decode cX10_init 184 = .ok (.putfield 107, 3) := by decide +kernel
theorem dX10_init_187 : decode cX10_init 187 = .ok (.aload_n 0, 1) := by decide +kernel
theorem dX10_init_188 : decode cX10_init 188 = .ok (.getfield 58, 3) := by decide +kernel
theorem dX10_init_191 : decode cX10_init 191 = .ok (.iconst 0, 1) := by decide +kernel
theorem dX10_init_192 : decode cX10_init 192 = .ok (.ldc2_w 110, 3) := by decide +kernel
theorem dX10_init_195 : decode cX10_init 195 = .ok (.lastore, 1) := by decide +kernel
theorem dX10_init_196 : decode cX10_init 196 = .ok (.aload_n 0, 1) := by decide +kernel
theorem dX10_init_197 : decode cX10_init 197 = .ok (.getfield 58, 3) := by decide +kernel
theorem dX10_init_200 : decode cX10_init 200 = .ok (.iconst 1, 1) := by decide +kernel
theorem dX10_init_201 : decode cX10_init 201 = .ok (.ldc2_w 112, 3) := by decide +kernel
theorem dX10_init_204 : decode cX10_init 204 = .ok (.lastore, 1) := by decide +kernel
theorem dX10_init_205 : decode cX10_init 205 = .ok (.aload_n 0, 1) := by decide +kernel
theorem dX10_init_206 : decode cX10_init 206 = .ok (.getfield 58, 3) := by decide +kernel
theorem dX10_init_209 : decode cX10_init 209 = .ok (.iconst 2, 1) := by decide +kernel
theorem dX10_init_210 : decode cX10_init 210 = .ok (.ldc2_w 114, 3) := by decide +kernel
theorem dX10_init_213 : decode cX10_init 213 = .ok (.lastore, 1) := by decide +kernel
theorem dX10_init_214 : decode cX10_init 214 = .ok (.aload_n 0, 1) := by decide +kernel
theorem dX10_init_215 : decode cX10_init 215 = .ok (.getfield 58, 3) := by decide +kernel
theorem dX10_init_218 : decode cX10_init 218 = .ok (.iconst 3, 1) := by decide +kernel
theorem dX10_init_219 : decode cX10_init 219 = .ok (.ldc2_w 116, 3) := by decide +kernel
theorem dX10_init_222 : decode cX10_init 222 = .ok (.lastore, 1) := by decide +kernel
theorem dX10_init_223 : decode cX10_init 223 = .ok (.aload_n 0, 1) := by decide +kernel
theorem dX10_init_224 : decode cX10_init 224 = .ok (.getfield 58, 3) := by decide +kernel
theorem dX10_init_227 : decode cX10_init 227 = .ok (.iconst 4, 1) := by decide +kernel
theorem dX10_init_228 : decode cX10_init 228 = .ok (.ldc2_w 118, 3) := by decide +kernel
theorem dX10_init_231 : decode cX10_init 231 = .ok (.lastore, 1) := by decide +kernel
theorem dX10_init_232 : decode cX10_init 232 = .ok (.aload_n 0, 1) := by decide +kernel
theorem dX10_init_233 : decode cX10_init 233 = .ok (.getfield 58, 3) := by decide +kernel
theorem dX10_init_236 : decode cX10_init 236 = .ok (.iconst 5, 1) := by decide +kernel
theorem dX10_init_237 : decode cX10_init 237 = .ok (.ldc2_w 120, 3) := by decide +kernel
theorem dX10_init_240 : decode cX10_init 240 = .ok (.lastore, 1) := by decide +kernel
theorem dX10_init_241 : decode cX10_init 241 = .ok (.aload_n 0, 1) := by decide +kernel
theorem dX10_init_242 : decode cX10_init 242 = .ok (.getfield 58, 3) := by decide +kernel
theorem dX10_init_245 : decode cX10_init 245 = .ok (.bipush 6, 2) := by decide +kernel
theorem dX10_init_247 : decode cX10_init 247 = .ok (.ldc2_w 122, 3) := by decide +kernel
theorem dX10_init_250 : decode cX10_init 250 = .ok (.lastore, 1) := by decide +kernel
theorem dX10_init_251 : decode cX10_init 251 = .ok (.aload_n 0, 1) := by decide +kernel
theorem dX10_init_252 : decode cX10_init 252 = .ok (.getfield 58, 3) := by decide +kernel
theorem dX10_init_255 : decode cX10_init 255 = .ok (.bipush 7, 2) := by decide +kernel
theorem dX10_init_257 : decode cX10_init 257 = .ok (.ldc2_w 124, 3) := by decide +kernel
theorem dX10_init_260 : decode cX10_init 260 = .ok (.lastore, 1) := by decide +kernel
theorem dX10_init_261 : decode cX10_init 261 = .ok (.aload_n 0, 1) := by decide +kernel
theorem dX10_init_262 : decode cX10_init 262 = .ok (.getfield 58, 3) := by decide +kernel
theorem dX10_init_265 : decode cX10_init 265 = .ok (.bipush 8, 2) := by decide +kernel
theorem dX10_init_267 : decode cX10_init 267 = .ok (.ldc2_w 126, 3) := by decide +kernel
theorem dX10_init_270 : decode cX10_init 270 = .ok (.lastore, 1) := by decide +kernel
theorem dX10_init_271 : decode cX10_init 271 = .ok (.aload_n 0, 1) := by decide +kernel
theorem dX10_init_272 : decode cX10_init 272 = .ok (.getfield 58, 3) := by decide +kernel
theorem dX10_init_275 : decode cX10_init 275 = .ok (.bipush 9, 2) := by decide +kernel
theorem dX10_init_277 : decode cX10_init 277 = .ok (.ldc2_w 128, 3) := by decide +kernel
theorem dX10_init_280 : decode cX10_init 280 = .ok (.lastore, 1) := by decide +kernel
theorem dX10_init_281 : decode cX10_init 281 = .ok (.return_, 1) := by decide +kernel
theorem aw_int : Cond.arrayClass .int ∈ WS := wmem 151 (by decide +kernel) rfl
theorem aw_long : Cond.arrayClass .long ∈ WS := wmem 152 (by decide +kernel) rfl
theorem aw_byte : Cond.arrayClass .byte ∈ WS := wmem 1313 (by decide +kernel) rfl
theorem aw_boolean : Cond.arrayClass .boolean ∈ WS := wmem 1314 (by decide +kernel) rfl
theorem ow_i : Cond.instanceMethod objectInit ∈ WS := wmem 114 (by decide +kernel) rfl
theorem ow_c : Cond.code objectInit ⟨#[0xb1]⟩ 1 none ∈ WS := wmem1 27 rfl rfl
theorem ow_0 : Cond.methodLink RX0 3 objectInit ∈ WS := wmem 225 (by decide +kernel) rfl
theorem iw_0 : Cond.instantiable RX0 4 ∈ WS := wmem 221 (by decide +kernel) rfl
theorem dv_0 : ∀ j, j < 4 → defaultValue (tyX0 j) = vp_V [.null, .int 0, .int 0, .int 0] j := fun j hj => match j, hj with
  | 0, _ => rfl
  | 1, _ => rfl
  | 2, _ => rfl
  | 3, _ => rfl
  | k + 4, h => absurd h (by omega)
theorem ow_1 : Cond.methodLink RX1 3 objectInit ∈ WS := wmem 121 (by decide +kernel) rfl
theorem iw_1 : Cond.instantiable RX1 12 ∈ WS := wmem 117 (by decide +kernel) rfl
theorem dv_1 : ∀ j, j < 12 → defaultValue (tyX1 j) = vp_V [.int 0, .int 0, .null, .null, .null, .null, .null, .null, .null, .null, .null, .null] j := fun j hj => match j, hj with
  | 0, _ => rfl
  | 1, _ => rfl
  | 2, _ => rfl
  | 3, _ => rfl
  | 4, _ => rfl
  | 5, _ => rfl
  | 6, _ => rfl
  | 7, _ => rfl
  | 8, _ => rfl
  | 9, _ => rfl
  | 10, _ => rfl
  | 11, _ => rfl
  | k + 12, h => absurd h (by omega)
theorem ow_2 : Cond.methodLink RX2 3 objectInit ∈ WS := wmem 270 (by decide +kernel) rfl
theorem iw_2 : Cond.instantiable RX2 3 ∈ WS := wmem 266 (by decide +kernel) rfl
theorem dv_2 : ∀ j, j < 3 → defaultValue (tyX2 j) = vp_V [.null, .null, .null] j := fun j hj => match j, hj with
  | 0, _ => rfl
  | 1, _ => rfl
  | 2, _ => rfl
  | k + 3, h => absurd h (by omega)
theorem ow_3 : Cond.methodLink RX3 3 objectInit ∈ WS := wmem 305 (by decide +kernel) rfl
theorem iw_3 : Cond.instantiable RX3 2 ∈ WS := wmem 301 (by decide +kernel) rfl
theorem dv_3 : ∀ j, j < 2 → defaultValue (tyX3 j) = vp_V [.null, .null] j := fun j hj => match j, hj with
  | 0, _ => rfl
  | 1, _ => rfl
  | k + 2, h => absurd h (by omega)
theorem ow_4 : Cond.methodLink RX4 3 objectInit ∈ WS := wmem 369 (by decide +kernel) rfl
theorem iw_4 : Cond.instantiable RX4 6 ∈ WS := wmem 365 (by decide +kernel) rfl
theorem dv_4 : ∀ j, j < 6 → defaultValue (tyX4 j) = vp_V [.int 0, .int 0, .int 0, .null, .int 0, .null] j := fun j hj => match j, hj with
  | 0, _ => rfl
  | 1, _ => rfl
  | 2, _ => rfl
  | 3, _ => rfl
  | 4, _ => rfl
  | 5, _ => rfl
  | k + 6, h => absurd h (by omega)
theorem ow_5 : Cond.methodLink RX5 3 objectInit ∈ WS := wmem 127 (by decide +kernel) rfl
theorem iw_5 : Cond.instantiable RX5 4 ∈ WS := wmem 123 (by decide +kernel) rfl
theorem dv_5 : ∀ j, j < 4 → defaultValue (tyX5 j) = vp_V [.int 0, .null, .null, .null] j := fun j hj => match j, hj with
  | 0, _ => rfl
  | 1, _ => rfl
  | 2, _ => rfl
  | 3, _ => rfl
  | k + 4, h => absurd h (by omega)
theorem ow_6 : Cond.methodLink RX6 3 objectInit ∈ WS := wmem 289 (by decide +kernel) rfl
theorem iw_6 : Cond.instantiable RX6 2 ∈ WS := wmem 285 (by decide +kernel) rfl
theorem dv_6 : ∀ j, j < 2 → defaultValue (tyX6 j) = vp_V [.null, .null] j := fun j hj => match j, hj with
  | 0, _ => rfl
  | 1, _ => rfl
  | k + 2, h => absurd h (by omega)
theorem ow_7 : Cond.methodLink RX7 3 objectInit ∈ WS := wmem 231 (by decide +kernel) rfl
theorem iw_7 : Cond.instantiable RX7 4 ∈ WS := wmem 227 (by decide +kernel) rfl
theorem dv_7 : ∀ j, j < 4 → defaultValue (tyX7 j) = vp_V [.int 0, .null, .null, .null] j := fun j hj => match j, hj with
  | 0, _ => rfl
  | 1, _ => rfl
  | 2, _ => rfl
  | 3, _ => rfl
  | k + 4, h => absurd h (by omega)
theorem ow_8 : Cond.methodLink RX8 3 objectInit ∈ WS := wmem 319 (by decide +kernel) rfl
theorem iw_8 : Cond.instantiable RX8 14 ∈ WS := wmem 315 (by decide +kernel) rfl
theorem dv_8 : ∀ j, j < 14 → defaultValue (tyX8 j) = vp_V [.null, .null, .int 0, .null, .null, .int 0, .int 0, .null, .null, .null, .null, .null, .null, .null] j := fun j hj => match j, hj with
  | 0, _ => rfl
  | 1, _ => rfl
  | 2, _ => rfl
  | 3, _ => rfl
  | 4, _ => rfl
  | 5, _ => rfl
  | 6, _ => rfl
  | 7, _ => rfl
  | 8, _ => rfl
  | 9, _ => rfl
  | 10, _ => rfl
  | 11, _ => rfl
  | 12, _ => rfl
  | 13, _ => rfl
  | k + 14, h => absurd h (by omega)
theorem ow_9 : Cond.methodLink RX9 3 objectInit ∈ WS := wmem 113 (by decide +kernel) rfl
theorem iw_9 : Cond.instantiable RX9 13 ∈ WS := wmem 109 (by decide +kernel) rfl
theorem dv_9 : ∀ j, j < 13 → defaultValue (tyX9 j) = vp_V [.null, .int 0, .int 0, .null, .null, .null, .int 0, .null, .null, .null, .null, .null, .null] j := fun j hj => match j, hj with
  | 0, _ => rfl
  | 1, _ => rfl
  | 2, _ => rfl
  | 3, _ => rfl
  | 4, _ => rfl
  | 5, _ => rfl
  | 6, _ => rfl
  | 7, _ => rfl
  | 8, _ => rfl
  | 9, _ => rfl
  | 10, _ => rfl
  | 11, _ => rfl
  | 12, _ => rfl
  | k + 13, h => absurd h (by omega)
theorem ow_10 : Cond.methodLink RX10 35 objectInit ∈ WS := wmem 1178 (by decide +kernel) rfl
theorem iw_10 : Cond.instantiable RX10 41 ∈ WS := wmem 1168 (by decide +kernel) rfl
theorem dv_10 : ∀ j, j < 41 → defaultValue (tyX10 j) = vp_V [.int 0, .null, .int 0, .int 0, .int 0, .int 0, .null, .null, .null, .null, .null, .null, .int 0, .int 0, .int 0, .int 0, .int 0, .int 0, .long 0, .int 0, .int 0, .null, .null, .int 0, .null, .null, .null, .null, .null, .null, .null, .null, .null, .null, .null, .int 0, .int 0, .int 0, .null, .null, .null] j := fun j hj => match j, hj with
  | 0, _ => rfl
  | 1, _ => rfl
  | 2, _ => rfl
  | 3, _ => rfl
  | 4, _ => rfl
  | 5, _ => rfl
  | 6, _ => rfl
  | 7, _ => rfl
  | 8, _ => rfl
  | 9, _ => rfl
  | 10, _ => rfl
  | 11, _ => rfl
  | 12, _ => rfl
  | 13, _ => rfl
  | 14, _ => rfl
  | 15, _ => rfl
  | 16, _ => rfl
  | 17, _ => rfl
  | 18, _ => rfl
  | 19, _ => rfl
  | 20, _ => rfl
  | 21, _ => rfl
  | 22, _ => rfl
  | 23, _ => rfl
  | 24, _ => rfl
  | 25, _ => rfl
  | 26, _ => rfl
  | 27, _ => rfl
  | 28, _ => rfl
  | 29, _ => rfl
  | 30, _ => rfl
  | 31, _ => rfl
  | 32, _ => rfl
  | 33, _ => rfl
  | 34, _ => rfl
  | 35, _ => rfl
  | 36, _ => rfl
  | 37, _ => rfl
  | 38, _ => rfl
  | 39, _ => rfl
  | 40, _ => rfl
  | k + 41, h => absurd h (by omega)
theorem clw_L_8 : Cond.classLink RL 8 RX9 ∈ WS := wmem 108 (by decide +kernel) rfl
theorem clw_X9_20 : Cond.classLink RX9 20 RX1 ∈ WS := wmem 116 (by decide +kernel) rfl
theorem clw_X1_47 : Cond.classLink RX1 47 RX5 ∈ WS := wmem 122 (by decide +kernel) rfl
theorem clw_X9_36 : Cond.classLink RX9 36 RX0 ∈ WS := wmem 220 (by decide +kernel) rfl
theorem clw_X0_9 : Cond.classLink RX0 9 RX7 ∈ WS := wmem 226 (by decide +kernel) rfl
theorem clw_X9_43 : Cond.classLink RX9 43 RX2 ∈ WS := wmem 265 (by decide +kernel) rfl
theorem clw_X2_9 : Cond.classLink RX2 9 RX1 ∈ WS := wmem 271 (by decide +kernel) rfl
theorem clw_X9_52 : Cond.classLink RX9 52 RX6 ∈ WS := wmem 284 (by decide +kernel) rfl
theorem clw_X6_9 : Cond.classLink RX6 9 RX5 ∈ WS := wmem 290 (by decide +kernel) rfl
theorem clw_X9_59 : Cond.classLink RX9 59 RX3 ∈ WS := wmem 300 (by decide +kernel) rfl
theorem clw_X9_66 : Cond.classLink RX9 66 RX8 ∈ WS := wmem 314 (by decide +kernel) rfl
theorem clw_X9_75 : Cond.classLink RX9 75 RX4 ∈ WS := wmem 364 (by decide +kernel) rfl
theorem clw_L_26 : Cond.classLink RL 26 RX10 ∈ WS := wmem 1174 (by decide +kernel) rfl
def w_X5 (G : XG) (f : Nat → Nat) : va_W := [(f 0, .inr (5, [.int (0), .ref (f 1), .ref (f 2), .ref (f 3)])), (f 1, .inl (G.2.1.1, 40, .inl fun _ => 0)), (f 2, .inl (G.2.1.1, 40, .inl fun _ => 0)), (f 3, .inl (G.2.1.1, 40, .inl fun _ => 0))]
abbrev si_X5_init : SI := (cX5_init, RX5, 1, none, 1, 12)
set_option maxRecDepth 100000 in
set_option maxHeartbeats 8000000 in
theorem ac_X5 : AC mi_X5_init 1 12 3 120 5 [.int 0, .null, .null, .null] [] (fun G q w => ∃ f : Nat → Nat, f 0 = q ∧ w = w_X5 G f) := by
  refine AC_intro (si := si_X5_init) rfl (by decide +kernel) rfl (Nat.le_of_ble_eq_true rfl) (fun E q hI hRC => ?_)
  refine q_aload 0 dX5_init_0 rfl rfl ?_
  refine q_objInit ow_5 ow_i ow_c dX5_init_1 (by decide) ?_
  refine q_aload 0 dX5_init_4 rfl rfl ?_
  refine q_iconst dX5_init_5 ki2_0 ?_
  refine n_put (ci := 5) (fty := tyX5 0) [.int (0), .null, .null, .null] 0 rfl uX5 tyX5 tyX5_ok nmX5 (by decide) fw_X5_9 rfl (tyX5_ok 0 (by decide)) rfl rfl (Nat.le_of_ble_eq_true rfl) rfl dX5_init_6 ?_
  refine q_aload 0 dX5_init_9 rfl rfl ?_
  refine q_bipush dX5_init_10 kb2_40 ?_
  refine n_newa (k := 40) (t0 := 0) (ty := .int) (a0 := (40, .inl fun _ => 0)) rfl (fun _ h => by cases h) rfl dX5_init_12 aw_int (by decide) rfl (RC_mono hRC (Nat.le_of_ble_eq_true rfl) (Nat.le_of_ble_eq_true rfl)) (by decide) (fun _ => rfl) (fun q1 => ?_)
  refine n_putF (ci := 5) (fty := tyX5 1) [.int (0), .ref q1, .null, .null] 1 hI rfl uX5 tyX5 tyX5_ok nmX5 (by decide) fw_X5_15 rfl rfl (tyX5_ok 1 (by decide)) rfl rfl (Nat.le_of_ble_eq_true rfl) rfl dX5_init_14 ?_
  refine q_aload 0 dX5_init_17 rfl rfl ?_
  refine q_bipush dX5_init_18 kb2_40 ?_
  refine n_newa (k := 40) (t0 := 0) (ty := .int) (a0 := (40, .inl fun _ => 0)) rfl (fun _ h => by cases h) rfl dX5_init_20 aw_int (by decide) rfl (RC_mono hRC (Nat.le_of_ble_eq_true rfl) (Nat.le_of_ble_eq_true rfl)) (by decide) (fun _ => rfl) (fun q2 => ?_)
  refine n_putF (ci := 5) (fty := tyX5 2) [.int (0), .ref q1, .ref q2, .null] 2 hI rfl uX5 tyX5 tyX5_ok nmX5 (by decide) fw_X5_19 rfl rfl (tyX5_ok 2 (by decide)) rfl rfl (Nat.le_of_ble_eq_true rfl) rfl dX5_init_22 ?_
  refine q_aload 0 dX5_init_25 rfl rfl ?_
  refine q_bipush dX5_init_26 kb2_40 ?_
  refine n_newa (k := 40) (t0 := 0) (ty := .int) (a0 := (40, .inl fun _ => 0)) rfl (fun _ h => by cases h) rfl dX5_init_28 aw_int (by decide) rfl (RC_mono hRC (Nat.le_of_ble_eq_true rfl) (Nat.le_of_ble_eq_true rfl)) (by decide) (fun _ => rfl) (fun q3 => ?_)
  refine n_putF (ci := 5) (fty := tyX5 3) [.int (0), .ref q1, .ref q2, .ref q3] 3 hI rfl uX5 tyX5 tyX5_ok nmX5 (by decide) fw_X5_22 rfl rfl (tyX5_ok 3 (by decide)) rfl rfl (Nat.le_of_ble_eq_true rfl) rfl dX5_init_30 ?_
  exact q_ret dX5_init_33 rfl ⟨fun k => bif Nat.blt k 1 then q else bif Nat.blt k 2 then q1 else bif Nat.blt k 3 then q2 else q3, rfl, rfl⟩
def w_X1 (G : XG) (f : Nat → Nat) : va_W := [(f 0, .inr (1, [.int (0), .int (0), .ref (f 1), .ref (f 2), .ref (f 3), .ref (f 4), .ref (f 5), .ref (f 6), .ref (f 7), .ref (f 8), .ref (f 9), .ref (f 10)])), (f 1, .inl (G.2.1.2.1, 3, .inr (.inl fun _ => 0))), (f 2, .inl (G.2.1.1, 3, .inl fun _ => 0)), (f 3, .inl (G.2.1.1, 3, .inl fun _ => 0)), (f 4, .inl (G.2.1.1, 3, .inl fun _ => 0)), (f 5, .inl (G.2.1.2.1, 4, .inr (.inl fun _ => 0))), (f 6, .inl (G.2.1.1, 4, .inl fun _ => 0)), (f 7, .inl (G.2.1.1, 4, .inl fun _ => 0)), (f 8, .inl (G.2.1.1, 120, .inl fun _ => 0)), (f 9, .inl (G.2.1.1, 30, .inl (fun j => if j < 30 then (-1) else 0)))] ++ w_X5 G (fun k => f (10 + k))
abbrev si_X1_init : SI := (cX1_init, RX1, 1, none, 2, 32)
set_option maxRecDepth 100000 in
set_option maxHeartbeats 8000000 in
theorem ac_X1 : AC mi_X1_init 2 32 13 298 1 [.int 0, .int 0, .null, .null, .null, .null, .null, .null, .null, .null, .null, .null] [] (fun G q w => ∃ f : Nat → Nat, f 0 = q ∧ w = w_X1 G f) := by
  refine AC_intro (si := si_X1_init) rfl (by decide +kernel) rfl (Nat.le_of_ble_eq_true rfl) (fun E q hI hRC => ?_)
  refine q_aload 0 dX1_init_0 rfl rfl ?_
  refine q_objInit ow_1 ow_i ow_c dX1_init_1 (by decide) ?_
  refine q_aload 0 dX1_init_4 rfl rfl ?_
  refine q_iconst dX1_init_5 ki2_0 ?_
  refine n_put (ci := 1) (fty := tyX1 0) [.int (0), .int 0, .null, .null, .null, .null, .null, .null, .null, .null, .null, .null] 0 rfl uX1 tyX1 tyX1_ok nmX1 (by decide) fw_X1_9 rfl (tyX1_ok 0 (by decide)) rfl rfl (Nat.le_of_ble_eq_true rfl) rfl dX1_init_6 ?_
  refine q_aload 0 dX1_init_9 rfl rfl ?_
  refine q_iconst dX1_init_10 ki2_0 ?_
  refine n_put (ci := 1) (fty := tyX1 1) [.int (0), .int (0), .null, .null, .null, .null, .null, .null, .null, .null, .null, .null] 1 rfl uX1 tyX1 tyX1_ok nmX1 (by decide) fw_X1_15 rfl (tyX1_ok 1 (by decide)) rfl rfl (Nat.le_of_ble_eq_true rfl) rfl dX1_init_11 ?_
  refine q_aload 0 dX1_init_14 rfl rfl ?_
  refine q_iconst dX1_init_15 ki2_3 ?_
  refine n_newa (k := 3) (t0 := 1) (ty := .long) (a0 := (3, .inr (.inl fun _ => 0))) rfl (fun _ h => by cases h) rfl dX1_init_16 aw_long (by decide) rfl (RC_mono hRC (Nat.le_of_ble_eq_true rfl) (Nat.le_of_ble_eq_true rfl)) (by decide) (fun _ => rfl) (fun q1 => ?_)
  refine n_putF (ci := 1) (fty := tyX1 2) [.int (0), .int (0), .ref q1, .null, .null, .null, .null, .null, .null, .null, .null, .null] 2 hI rfl uX1 tyX1 tyX1_ok nmX1 (by decide) fw_X1_18 rfl rfl (tyX1_ok 2 (by decide)) rfl rfl (Nat.le_of_ble_eq_true rfl) rfl dX1_init_18 ?_
  refine q_aload 0 dX1_init_21 rfl rfl ?_
  refine q_iconst dX1_init_22 ki2_3 ?_
  refine n_newa (k := 3) (t0 := 0) (ty := .int) (a0 := (3, .inl fun _ => 0)) rfl (fun _ h => by cases h) rfl dX1_init_23 aw_int (by decide) rfl (RC_mono hRC (Nat.le_of_ble_eq_true rfl) (Nat.le_of_ble_eq_true rfl)) (by decide) (fun _ => rfl) (fun q2 => ?_)
  refine n_putF (ci := 1) (fty := tyX1 3) [.int (0), .int (0), .ref q1, .ref q2, .null, .null, .null, .null, .null, .null, .null, .null] 3 hI rfl uX1 tyX1 tyX1_ok nmX1 (by decide) fw_X1_22 rfl rfl (tyX1_ok 3 (by decide)) rfl rfl (Nat.le_of_ble_eq_true rfl) rfl dX1_init_25 ?_
  refine q_aload 0 dX1_init_28 rfl rfl ?_
  refine q_iconst dX1_init_29 ki2_3 ?_
  refine n_newa (k := 3) (t0 := 0) (ty := .int) (a0 := (3, .inl fun _ => 0)) rfl (fun _ h => by cases h) rfl dX1_init_30 aw_int (by decide) rfl (RC_mono hRC (Nat.le_of_ble_eq_true rfl) (Nat.le_of_ble_eq_true rfl)) (by decide) (fun _ => rfl) (fun q3 => ?_)
  refine n_putF (ci := 1) (fty := tyX1 4) [.int (0), .int (0), .ref q1, .ref q2, .ref q3, .null, .null, .null, .null, .null, .null, .null] 4 hI rfl uX1 tyX1 tyX1_ok nmX1 (by decide) fw_X1_26 rfl rfl (tyX1_ok 4 (by decide)) rfl rfl (Nat.le_of_ble_eq_true rfl) rfl dX1_init_32 ?_
  refine q_aload 0 dX1_init_35 rfl rfl ?_
  refine q_iconst dX1_init_36 ki2_3 ?_
  refine n_newa (k := 3) (t0 := 0) (ty := .int) (a0 := (3, .inl fun _ => 0)) rfl (fun _ h => by cases h) rfl dX1_init_37 aw_int (by decide) rfl (RC_mono hRC (Nat.le_of_ble_eq_true rfl) (Nat.le_of_ble_eq_true rfl)) (by decide) (fun _ => rfl) (fun q4 => ?_)
  refine n_putF (ci := 1) (fty := tyX1 5) [.int (0), .int (0), .ref q1, .ref q2, .ref q3, .ref q4, .null, .null, .null, .null, .null, .null] 5 hI rfl uX1 tyX1 tyX1_ok nmX1 (by decide) fw_X1_29 rfl rfl (tyX1_ok 5 (by decide)) rfl rfl (Nat.le_of_ble_eq_true rfl) rfl dX1_init_39 ?_
  refine q_aload 0 dX1_init_42 rfl rfl ?_
  refine q_iconst dX1_init_43 ki2_4 ?_
  refine n_newa (k := 4) (t0 := 1) (ty := .long) (a0 := (4, .inr (.inl fun _ => 0))) rfl (fun _ h => by cases h) rfl dX1_init_44 aw_long (by decide) rfl (RC_mono hRC (Nat.le_of_ble_eq_true rfl) (Nat.le_of_ble_eq_true rfl)) (by decide) (fun _ => rfl) (fun q5 => ?_)
  refine n_putF (ci := 1) (fty := tyX1 6) [.int (0), .int (0), .ref q1, .ref q2, .ref q3, .ref q4, .ref q5, .null, .null, .null, .null, .null] 6 hI rfl uX1 tyX1 tyX1_ok nmX1 (by decide) fw_X1_32 rfl rfl (tyX1_ok 6 (by decide)) rfl rfl (Nat.le_of_ble_eq_true rfl) rfl dX1_init_46 ?_
  refine q_aload 0 dX1_init_49 rfl rfl ?_
  refine q_iconst dX1_init_50 ki2_4 ?_
  refine n_newa (k := 4) (t0 := 0) (ty := .int) (a0 := (4, .inl fun _ => 0)) rfl (fun _ h => by cases h) rfl dX1_init_51 aw_int (by decide) rfl (RC_mono hRC (Nat.le_of_ble_eq_true rfl) (Nat.le_of_ble_eq_true rfl)) (by decide) (fun _ => rfl) (fun q6 => ?_)
  refine n_putF (ci := 1) (fty := tyX1 7) [.int (0), .int (0), .ref q1, .ref q2, .ref q3, .ref q4, .ref q5, .ref q6, .null, .null, .null, .null] 7 hI rfl uX1 tyX1 tyX1_ok nmX1 (by decide) fw_X1_35 rfl rfl (tyX1_ok 7 (by decide)) rfl rfl (Nat.le_of_ble_eq_true rfl) rfl dX1_init_53 ?_
  refine q_aload 0 dX1_init_56 rfl rfl ?_
  refine q_iconst dX1_init_57 ki2_4 ?_
  refine n_newa (k := 4) (t0 := 0) (ty := .int) (a0 := (4, .inl fun _ => 0)) rfl (fun _ h => by cases h) rfl dX1_init_58 aw_int (by decide) rfl (RC_mono hRC (Nat.le_of_ble_eq_true rfl) (Nat.le_of_ble_eq_true rfl)) (by decide) (fun _ => rfl) (fun q7 => ?_)
  refine n_putF (ci := 1) (fty := tyX1 8) [.int (0), .int (0), .ref q1, .ref q2, .ref q3, .ref q4, .ref q5, .ref q6, .ref q7, .null, .null, .null] 8 hI rfl uX1 tyX1 tyX1_ok nmX1 (by decide) fw_X1_38 rfl rfl (tyX1_ok 8 (by decide)) rfl rfl (Nat.le_of_ble_eq_true rfl) rfl dX1_init_60 ?_
  refine q_aload 0 dX1_init_63 rfl rfl ?_
  refine q_bipush dX1_init_64 kb2_120 ?_
  refine n_newa (k := 120) (t0 := 0) (ty := .int) (a0 := (120, .inl fun _ => 0)) rfl (fun _ h => by cases h) rfl dX1_init_66 aw_int (by decide) rfl (RC_mono hRC (Nat.le_of_ble_eq_true rfl) (Nat.le_of_ble_eq_true rfl)) (by decide) (fun _ => rfl) (fun q8 => ?_)
  refine n_putF (ci := 1) (fty := tyX1 9) [.int (0), .int (0), .ref q1, .ref q2, .ref q3, .ref q4, .ref q5, .ref q6, .ref q7, .ref q8, .null, .null] 9 hI rfl uX1 tyX1 tyX1_ok nmX1 (by decide) fw_X1_41 rfl rfl (tyX1_ok 9 (by decide)) rfl rfl (Nat.le_of_ble_eq_true rfl) rfl dX1_init_68 ?_
  refine q_aload 0 dX1_init_71 rfl rfl ?_
  refine q_bipush dX1_init_72 kb2_30 ?_
  refine n_newa (k := 30) (t0 := 0) (ty := .int) (a0 := (30, .inl fun _ => 0)) rfl (fun _ h => by cases h) rfl dX1_init_74 aw_int (by decide) rfl (RC_mono hRC (Nat.le_of_ble_eq_true rfl) (Nat.le_of_ble_eq_true rfl)) (by decide) (fun _ => rfl) (fun q9 => ?_)
  refine n_putF (ci := 1) (fty := tyX1 10) [.int (0), .int (0), .ref q1, .ref q2, .ref q3, .ref q4, .ref q5, .ref q6, .ref q7, .ref q8, .ref q9, .null] 10 hI rfl uX1 tyX1 tyX1_ok nmX1 (by decide) fw_X1_44 rfl rfl (tyX1_ok 10 (by decide)) rfl rfl (Nat.le_of_ble_eq_true rfl) rfl dX1_init_76 ?_
  refine q_aload 0 dX1_init_79 rfl rfl ?_
  refine n_new (ci := 5) [.int 0, .null, .null, .null] rfl uX5 tyX5 tyX5_ok dv_5 clw_X1_47 iw_5 nw_X5 (RC_mono hRC (Nat.le_of_ble_eq_true rfl) (Nat.le_of_ble_eq_true rfl)) dX1_init_80 (fun q10 => ?_)
  refine q_dup dX1_init_83 ?_
  refine n_callIN (st := [.ref q10, .ref q]) (ac_X5) rfl rfl wn_X1_49 iw_X5_init nw_X5 cw_X5_init (show plainF mi_X5_init 0 from by unfold plainF; decide +kernel) (by decide) (RC_mono hRC (Nat.le_of_ble_eq_true rfl) (Nat.le_of_ble_eq_true rfl)) dX1_init_84 rfl (Nat.le_of_ble_eq_true rfl) (fun w1 hw1 => ?_)
  obtain ⟨f10, hf10, rfl⟩ := hw1
  subst hf10
  refine n_putF (ci := 1) (fty := tyX1 11) [.int (0), .int (0), .ref q1, .ref q2, .ref q3, .ref q4, .ref q5, .ref q6, .ref q7, .ref q8, .ref q9, .ref (f10 0)] 11 hI rfl uX1 tyX1 tyX1_ok nmX1 (by decide) fw_X1_50 rfl rfl (tyX1_ok 11 (by decide)) rfl rfl (Nat.le_of_ble_eq_true rfl) rfl dX1_init_87 ?_
  refine q_aload 0 dX1_init_90 rfl rfl ?_
  refine n_get (ci := 1) (v := .ref q9) 10 rfl uX1 (by decide) fw_X1_44 rfl dX1_init_91 ?_
  refine q_iconst dX1_init_94 ki2_m1 ?_
  refine n_fill 8 rfl (by decide) mw_X1_54 (by decide) (RC_mono hRC (Nat.le_of_ble_eq_true rfl) (Nat.le_of_ble_eq_true rfl)) dX1_init_95 (Nat.le_of_ble_eq_true rfl) ?_
  exact q_ret dX1_init_98 rfl ⟨fun k => bif Nat.blt k 1 then q else bif Nat.blt k 2 then q1 else bif Nat.blt k 3 then q2 else bif Nat.blt k 4 then q3 else bif Nat.blt k 5 then q4 else bif Nat.blt k 6 then q5 else bif Nat.blt k 7 then q6 else bif Nat.blt k 8 then q7 else bif Nat.blt k 9 then q8 else bif Nat.blt k 10 then q9 else f10 (k - 10), rfl, rfl⟩
def w_X7 (G : XG) (f : Nat → Nat) : va_W := [(f 0, .inr (7, [.int (0), .ref (f 1), .ref (f 2), .ref (f 3)])), (f 1, .inl (G.2.1.1, 941, .inl fun _ => 0)), (f 2, .inl (G.2.1.1, 941, .inl fun _ => 0)), (f 3, .inl (G.2.1.2.1, 941, .inr (.inl fun _ => 0)))]
abbrev si_X7_init : SI := (cX7_init, RX7, 1, none, 1, 12)
set_option maxRecDepth 100000 in
set_option maxHeartbeats 8000000 in
theorem ac_X7 : AC mi_X7_init 1 12 3 2823 7 [.int 0, .null, .null, .null] [] (fun G q w => ∃ f : Nat → Nat, f 0 = q ∧ w = w_X7 G f) := by
  refine AC_intro (si := si_X7_init) rfl (by decide +kernel) rfl (Nat.le_of_ble_eq_true rfl) (fun E q hI hRC => ?_)
  refine q_aload 0 dX7_init_0 rfl rfl ?_
  refine q_objInit ow_7 ow_i ow_c dX7_init_1 (by decide) ?_
  refine q_aload 0 dX7_init_4 rfl rfl ?_
  refine q_iconst dX7_init_5 ki2_0 ?_
  refine n_put (ci := 7) (fty := tyX7 0) [.int (0), .null, .null, .null] 0 rfl uX7 tyX7 tyX7_ok nmX7 (by decide) fw_X7_9 rfl (tyX7_ok 0 (by decide)) rfl rfl (Nat.le_of_ble_eq_true rfl) rfl dX7_init_6 ?_
  refine q_aload 0 dX7_init_9 rfl rfl ?_
  refine q_sipush dX7_init_10 ks2_941 ?_
  refine n_newa (k := 941) (t0 := 0) (ty := .int) (a0 := (941, .inl fun _ => 0)) rfl (fun _ h => by cases h) rfl dX7_init_13 aw_int (by decide) rfl (RC_mono hRC (Nat.le_of_ble_eq_true rfl) (Nat.le_of_ble_eq_true rfl)) (by decide) (fun _ => rfl) (fun q1 => ?_)
  refine n_putF (ci := 7) (fty := tyX7 1) [.int (0), .ref q1, .null, .null] 1 hI rfl uX7 tyX7 tyX7_ok nmX7 (by decide) fw_X7_15 rfl rfl (tyX7_ok 1 (by decide)) rfl rfl (Nat.le_of_ble_eq_true rfl) rfl dX7_init_15 ?_
  refine q_aload 0 dX7_init_18 rfl rfl ?_
  refine q_sipush dX7_init_19 ks2_941 ?_
  refine n_newa (k := 941) (t0 := 0) (ty := .int) (a0 := (941, .inl fun _ => 0)) rfl (fun _ h => by cases h) rfl dX7_init_22 aw_int (by decide) rfl (RC_mono hRC (Nat.le_of_ble_eq_true rfl) (Nat.le_of_ble_eq_true rfl)) (by decide) (fun _ => rfl) (fun q2 => ?_)
  refine n_putF (ci := 7) (fty := tyX7 2) [.int (0), .ref q1, .ref q2, .null] 2 hI rfl uX7 tyX7 tyX7_ok nmX7 (by decide) fw_X7_19 rfl rfl (tyX7_ok 2 (by decide)) rfl rfl (Nat.le_of_ble_eq_true rfl) rfl dX7_init_24 ?_
  refine q_aload 0 dX7_init_27 rfl rfl ?_
  refine q_sipush dX7_init_28 ks2_941 ?_
  refine n_newa (k := 941) (t0 := 1) (ty := .long) (a0 := (941, .inr (.inl fun _ => 0))) rfl (fun _ h => by cases h) rfl dX7_init_31 aw_long (by decide) rfl (RC_mono hRC (Nat.le_of_ble_eq_true rfl) (Nat.le_of_ble_eq_true rfl)) (by decide) (fun _ => rfl) (fun q3 => ?_)
  refine n_putF (ci := 7) (fty := tyX7 3) [.int (0), .ref q1, .ref q2, .ref q3] 3 hI rfl uX7 tyX7 tyX7_ok nmX7 (by decide) fw_X7_22 rfl rfl (tyX7_ok 3 (by decide)) rfl rfl (Nat.le_of_ble_eq_true rfl) rfl dX7_init_33 ?_
  exact q_ret dX7_init_36 rfl ⟨fun k => bif Nat.blt k 1 then q else bif Nat.blt k 2 then q1 else bif Nat.blt k 3 then q2 else q3, rfl, rfl⟩
def w_X0 (G : XG) (f : Nat → Nat) : va_W := [(f 0, .inr (0, [.ref (f 1), .int (0), .int (0), .int (0)]))] ++ w_X7 G (fun k => f (1 + k))
abbrev si_X0_init : SI := (cX0_init, RX0, 1, none, 2, 32)
set_option maxRecDepth 100000 in
set_option maxHeartbeats 8000000 in
theorem ac_X0 : AC mi_X0_init 2 32 4 2827 0 [.null, .int 0, .int 0, .int 0] [] (fun G q w => ∃ f : Nat → Nat, f 0 = q ∧ w = w_X0 G f) := by
  refine AC_intro (si := si_X0_init) rfl (by decide +kernel) rfl (Nat.le_of_ble_eq_true rfl) (fun E q hI hRC => ?_)
  refine q_aload 0 dX0_init_0 rfl rfl ?_
  refine q_objInit ow_0 ow_i ow_c dX0_init_1 (by decide) ?_
  refine q_aload 0 dX0_init_4 rfl rfl ?_
  refine n_new (ci := 7) [.int 0, .null, .null, .null] rfl uX7 tyX7 tyX7_ok dv_7 clw_X0_9 iw_7 nw_X7 (RC_mono hRC (Nat.le_of_ble_eq_true rfl) (Nat.le_of_ble_eq_true rfl)) dX0_init_5 (fun q1 => ?_)
  refine q_dup dX0_init_8 ?_
  refine n_callIN (st := [.ref q1, .ref q]) (ac_X7) rfl rfl wn_X0_11 iw_X7_init nw_X7 cw_X7_init (show plainF mi_X7_init 0 from by unfold plainF; decide +kernel) (by decide) (RC_mono hRC (Nat.le_of_ble_eq_true rfl) (Nat.le_of_ble_eq_true rfl)) dX0_init_9 rfl (Nat.le_of_ble_eq_true rfl) (fun w1 hw1 => ?_)
  obtain ⟨f1, hf1, rfl⟩ := hw1
  subst hf1
  refine n_putF (ci := 0) (fty := tyX0 0) [.ref (f1 0), .int 0, .int 0, .int 0] 0 hI rfl uX0 tyX0 tyX0_ok nmX0 (by decide) fw_X0_12 rfl rfl (tyX0_ok 0 (by decide)) rfl rfl (Nat.le_of_ble_eq_true rfl) rfl dX0_init_12 ?_
  refine q_aload 0 dX0_init_15 rfl rfl ?_
  refine q_iconst dX0_init_16 ki2_0 ?_
  refine n_put (ci := 0) (fty := tyX0 1) [.ref (f1 0), .int (0), .int 0, .int 0] 1 rfl uX0 tyX0 tyX0_ok nmX0 (by decide) fw_X0_18 rfl (tyX0_ok 1 (by decide)) rfl rfl (Nat.le_of_ble_eq_true rfl) rfl dX0_init_17 ?_
  refine q_aload 0 dX0_init_20 rfl rfl ?_
  refine q_iconst dX0_init_21 ki2_0 ?_
  refine n_put (ci := 0) (fty := tyX0 2) [.ref (f1 0), .int (0), .int (0), .int 0] 2 rfl uX0 tyX0 tyX0_ok nmX0 (by decide) fw_X0_22 rfl (tyX0_ok 2 (by decide)) rfl rfl (Nat.le_of_ble_eq_true rfl) rfl dX0_init_22 ?_
  refine q_aload 0 dX0_init_25 rfl rfl ?_
  refine q_iconst dX0_init_26 ki2_0 ?_
  refine n_put (ci := 0) (fty := tyX0 3) [.ref (f1 0), .int (0), .int (0), .int (0)] 3 rfl uX0 tyX0 tyX0_ok nmX0 (by decide) fw_X0_25 rfl (tyX0_ok 3 (by decide)) rfl rfl (Nat.le_of_ble_eq_true rfl) rfl dX0_init_27 ?_
  exact q_ret dX0_init_30 rfl ⟨fun k => bif Nat.blt k 1 then q else f1 (k - 1), rfl, rfl⟩
def w_X2 (G : XG) (f : Nat → Nat) (cur : Nat) : va_W := [(f 0, .inr (2, [.ref cur, .ref (f 1), .ref (f 15)]))] ++ w_X1 G (fun k => f (1 + k)) ++ [(f 15, .inl (G.2.1.1, 4, .inl fun _ => 0))]
abbrev si_X2_init : SI := (cX2_init, RX2, 2, none, 3, 52)
set_option maxRecDepth 100000 in
set_option maxHeartbeats 8000000 in
theorem ac_X2 (cur : Nat) : AC mi_X2_init 3 52 15 314 2 [.null, .null, .null] [.ref cur] (fun G q w => ∃ f : Nat → Nat, f 0 = q ∧ w = w_X2 G f cur) := by
  refine AC_intro (si := si_X2_init) rfl (by decide +kernel) rfl (Nat.le_of_ble_eq_true rfl) (fun E q hI hRC => ?_)
  refine q_aload 0 dX2_init_0 rfl rfl ?_
  refine q_objInit ow_2 ow_i ow_c dX2_init_1 (by decide) ?_
  refine q_aload 0 dX2_init_4 rfl rfl ?_
  refine n_new (ci := 1) [.int 0, .int 0, .null, .null, .null, .null, .null, .null, .null, .null, .null, .null] rfl uX1 tyX1 tyX1_ok dv_1 clw_X2_9 iw_1 nw_X1 (RC_mono hRC (Nat.le_of_ble_eq_true rfl) (Nat.le_of_ble_eq_true rfl)) dX2_init_5 (fun q1 => ?_)
  refine q_dup dX2_init_8 ?_
  refine n_callI (st := [.ref q1, .ref q]) (ac_X1) rfl rfl mw_X2_11 iw_X1_init nw_X1 cw_X1_init (show plainF mi_X1_init 0 from by unfold plainF; decide +kernel) (by decide) (RC_mono hRC (Nat.le_of_ble_eq_true rfl) (Nat.le_of_ble_eq_true rfl)) dX2_init_9 rfl (Nat.le_of_ble_eq_true rfl) (fun w1 hw1 => ?_)
  obtain ⟨f1, hf1, rfl⟩ := hw1
  subst hf1
  refine n_putF (ci := 2) (fty := tyX2 1) [.null, .ref (f1 0), .null] 1 hI rfl uX2 tyX2 tyX2_ok nmX2 (by decide) fw_X2_12 rfl rfl (tyX2_ok 1 (by decide)) rfl rfl (Nat.le_of_ble_eq_true rfl) rfl dX2_init_12 ?_
  refine q_aload 0 dX2_init_15 rfl rfl ?_
  refine q_iconst dX2_init_16 ki2_4 ?_
  refine n_newa (k := 4) (t0 := 0) (ty := .int) (a0 := (4, .inl fun _ => 0)) rfl (fun _ h => by cases h) rfl dX2_init_17 aw_int (by decide) rfl (RC_mono hRC (Nat.le_of_ble_eq_true rfl) (Nat.le_of_ble_eq_true rfl)) (by decide) (fun _ => rfl) (fun q2 => ?_)
  refine n_putF (ci := 2) (fty := tyX2 2) [.null, .ref (f1 0), .ref q2] 2 hI rfl uX2 tyX2 tyX2_ok nmX2 (by decide) fw_X2_18 rfl rfl (tyX2_ok 2 (by decide)) rfl rfl (Nat.le_of_ble_eq_true rfl) rfl dX2_init_19 ?_
  refine q_aload 0 dX2_init_22 rfl rfl ?_
  refine q_aload 1 dX2_init_23 rfl rfl ?_
  refine n_putF (ci := 2) (fty := tyX2 0) [.ref cur, .ref (f1 0), .ref q2] 0 hI rfl uX2 tyX2 tyX2_ok nmX2 (by decide) fw_X2_22 rfl rfl (tyX2_ok 0 (by decide)) rfl rfl (Nat.le_of_ble_eq_true rfl) rfl dX2_init_24 ?_
  exact q_ret dX2_init_27 rfl ⟨fun k => bif Nat.blt k 1 then q else bif Nat.blt k 15 then f1 (k - 1) else q2, rfl, rfl⟩
def w_X6 (G : XG) (f : Nat → Nat) (cur : Nat) : va_W := [(f 0, .inr (6, [.ref cur, .ref (f 1)]))] ++ w_X5 G (fun k => f (1 + k))
abbrev si_X6_init : SI := (cX6_init, RX6, 2, none, 2, 32)
set_option maxRecDepth 100000 in
set_option maxHeartbeats 8000000 in
theorem ac_X6 (cur : Nat) : AC mi_X6_init 2 32 4 124 6 [.null, .null] [.ref cur] (fun G q w => ∃ f : Nat → Nat, f 0 = q ∧ w = w_X6 G f cur) := by
  refine AC_intro (si := si_X6_init) rfl (by decide +kernel) rfl (Nat.le_of_ble_eq_true rfl) (fun E q hI hRC => ?_)
  refine q_aload 0 dX6_init_0 rfl rfl ?_
  refine q_objInit ow_6 ow_i ow_c dX6_init_1 (by decide) ?_
  refine q_aload 0 dX6_init_4 rfl rfl ?_
  refine n_new (ci := 5) [.int 0, .null, .null, .null] rfl uX5 tyX5 tyX5_ok dv_5 clw_X6_9 iw_5 nw_X5 (RC_mono hRC (Nat.le_of_ble_eq_true rfl) (Nat.le_of_ble_eq_true rfl)) dX6_init_5 (fun q1 => ?_)
  refine q_dup dX6_init_8 ?_
  refine n_callIN (st := [.ref q1, .ref q]) (ac_X5) rfl rfl wn_X6_11 iw_X5_init nw_X5 cw_X5_init (show plainF mi_X5_init 0 from by unfold plainF; decide +kernel) (by decide) (RC_mono hRC (Nat.le_of_ble_eq_true rfl) (Nat.le_of_ble_eq_true rfl)) dX6_init_9 rfl (Nat.le_of_ble_eq_true rfl) (fun w1 hw1 => ?_)
  obtain ⟨f1, hf1, rfl⟩ := hw1
  subst hf1
  refine n_putF (ci := 6) (fty := tyX6 1) [.null, .ref (f1 0)] 1 hI rfl uX6 tyX6 tyX6_ok nmX6 (by decide) fw_X6_12 rfl rfl (tyX6_ok 1 (by decide)) rfl rfl (Nat.le_of_ble_eq_true rfl) rfl dX6_init_12 ?_
  refine q_aload 0 dX6_init_15 rfl rfl ?_
  refine q_aload 1 dX6_init_16 rfl rfl ?_
  refine n_putF (ci := 6) (fty := tyX6 0) [.ref cur, .ref (f1 0)] 0 hI rfl uX6 tyX6 tyX6_ok nmX6 (by decide) fw_X6_18 rfl rfl (tyX6_ok 0 (by decide)) rfl rfl (Nat.le_of_ble_eq_true rfl) rfl dX6_init_17 ?_
  exact q_ret dX6_init_20 rfl ⟨fun k => bif Nat.blt k 1 then q else f1 (k - 1), rfl, rfl⟩
def w_X3 (G : XG) (f : Nat → Nat) (cur : Nat) : va_W := [(f 0, .inr (3, [.ref cur, .ref (f 1)])), (f 1, .inl (G.2.1.1, 30, .inl fun _ => 0))]
abbrev si_X3_init : SI := (cX3_init, RX3, 2, none, 1, 12)
set_option maxRecDepth 100000 in
set_option maxHeartbeats 8000000 in
theorem ac_X3 (cur : Nat) : AC mi_X3_init 1 12 1 30 3 [.null, .null] [.ref cur] (fun G q w => ∃ f : Nat → Nat, f 0 = q ∧ w = w_X3 G f cur) := by
  refine AC_intro (si := si_X3_init) rfl (by decide +kernel) rfl (Nat.le_of_ble_eq_true rfl) (fun E q hI hRC => ?_)
  refine q_aload 0 dX3_init_0 rfl rfl ?_
  refine q_objInit ow_3 ow_i ow_c dX3_init_1 (by decide) ?_
  refine q_aload 0 dX3_init_4 rfl rfl ?_
  refine q_bipush dX3_init_5 kb2_30 ?_
  refine n_newa (k := 30) (t0 := 0) (ty := .int) (a0 := (30, .inl fun _ => 0)) rfl (fun _ h => by cases h) rfl dX3_init_7 aw_int (by decide) rfl (RC_mono hRC (Nat.le_of_ble_eq_true rfl) (Nat.le_of_ble_eq_true rfl)) (by decide) (fun _ => rfl) (fun q1 => ?_)
  refine n_putF (ci := 3) (fty := tyX3 1) [.null, .ref q1] 1 hI rfl uX3 tyX3 tyX3_ok nmX3 (by decide) fw_X3_9 rfl rfl (tyX3_ok 1 (by decide)) rfl rfl (Nat.le_of_ble_eq_true rfl) rfl dX3_init_9 ?_
  refine q_aload 0 dX3_init_12 rfl rfl ?_
  refine q_aload 1 dX3_init_13 rfl rfl ?_
  refine n_putF (ci := 3) (fty := tyX3 0) [.ref cur, .ref q1] 0 hI rfl uX3 tyX3 tyX3_ok nmX3 (by decide) fw_X3_15 rfl rfl (tyX3_ok 0 (by decide)) rfl rfl (Nat.le_of_ble_eq_true rfl) rfl dX3_init_14 ?_
  exact q_ret dX3_init_17 rfl ⟨fun k => bif Nat.blt k 1 then q else q1, rfl, rfl⟩
def w_X8 (G : XG) (f : Nat → Nat) (cur : Nat) : va_W := [(f 0, .inr (8, [.ref cur, .ref (f 1), .int (0), .ref (f 2), .ref (f 3), .int (0), .int (0), .ref (f 4), .ref (f 5), .ref (f 6), .ref (f 7), .ref (f 8), .ref (f 9), .ref (f 10)])), (f 1, .inl (G.2.1.2.1, 48, .inr (.inl fun _ => 0))), (f 2, .inl (G.2.1.1, 8, .inl fun _ => 0)), (f 3, .inl (G.2.1.2.1, 24, .inr (.inl fun _ => 0))), (f 4, .inl (G.2.1.1, 781, .inl fun _ => 0)), (f 5, .inl (G.2.1.2.1, 2343, .inr (.inl fun _ => 0))), (f 6, .inl (G.2.1.2.1, 3, .inr (.inl fun _ => 0))), (f 7, .inl (G.2.1.2.1, 3, .inr (.inl fun _ => 0))), (f 8, .inl (G.2.1.2.1, 3, .inr (.inl fun _ => 0))), (f 9, .inl (G.2.1.2.1, 8, .inr (.inl fun _ => 0))), (f 10, .inl (G.2.1.2.1, 8, .inr (.inl fun _ => 0)))]
abbrev si_X8_init : SI := (cX8_init, RX8, 2, none, 1, 12)
set_option maxRecDepth 100000 in
set_option maxHeartbeats 8000000 in
theorem ac_X8 (cur : Nat) : AC mi_X8_init 1 12 10 3229 8 [.null, .null, .int 0, .null, .null, .int 0, .int 0, .null, .null, .null, .null, .null, .null, .null] [.ref cur] (fun G q w => ∃ f : Nat → Nat, f 0 = q ∧ w = w_X8 G f cur) := by
  refine AC_intro (si := si_X8_init) rfl (by decide +kernel) rfl (Nat.le_of_ble_eq_true rfl) (fun E q hI hRC => ?_)
  refine q_aload 0 dX8_init_0 rfl rfl ?_
  refine q_objInit ow_8 ow_i ow_c dX8_init_1 (by decide) ?_
  refine q_aload 0 dX8_init_4 rfl rfl ?_
  refine q_bipush dX8_init_5 kb2_48 ?_
  refine n_newa (k := 48) (t0 := 1) (ty := .long) (a0 := (48, .inr (.inl fun _ => 0))) rfl (fun _ h => by cases h) rfl dX8_init_7 aw_long (by decide) rfl (RC_mono hRC (Nat.le_of_ble_eq_true rfl) (Nat.le_of_ble_eq_true rfl)) (by decide) (fun _ => rfl) (fun q1 => ?_)
  refine n_putF (ci := 8) (fty := tyX8 1) [.null, .ref q1, .int 0, .null, .null, .int 0, .int 0, .null, .null, .null, .null, .null, .null, .null] 1 hI rfl uX8 tyX8 tyX8_ok nmX8 (by decide) fw_X8_11 rfl rfl (tyX8_ok 1 (by decide)) rfl rfl (Nat.le_of_ble_eq_true rfl) rfl dX8_init_9 ?_
  refine q_aload 0 dX8_init_12 rfl rfl ?_
  refine q_iconst dX8_init_13 ki2_0 ?_
  refine n_put (ci := 8) (fty := tyX8 2) [.null, .ref q1, .int (0), .null, .null, .int 0, .int 0, .null, .null, .null, .null, .null, .null, .null] 2 rfl uX8 tyX8 tyX8_ok nmX8 (by decide) fw_X8_15 rfl (tyX8_ok 2 (by decide)) rfl rfl (Nat.le_of_ble_eq_true rfl) rfl dX8_init_14 ?_
  refine q_aload 0 dX8_init_17 rfl rfl ?_
  refine q_bipush dX8_init_18 kb2_8 ?_
  refine n_newa (k := 8) (t0 := 0) (ty := .int) (a0 := (8, .inl fun _ => 0)) rfl (fun _ h => by cases h) rfl dX8_init_20 aw_int (by decide) rfl (RC_mono hRC (Nat.le_of_ble_eq_true rfl) (Nat.le_of_ble_eq_true rfl)) (by decide) (fun _ => rfl) (fun q2 => ?_)
  refine n_putF (ci := 8) (fty := tyX8 3) [.null, .ref q1, .int (0), .ref q2, .null, .int 0, .int 0, .null, .null, .null, .null, .null, .null, .null] 3 hI rfl uX8 tyX8 tyX8_ok nmX8 (by decide) fw_X8_19 rfl rfl (tyX8_ok 3 (by decide)) rfl rfl (Nat.le_of_ble_eq_true rfl) rfl dX8_init_22 ?_
  refine q_aload 0 dX8_init_25 rfl rfl ?_
  refine q_bipush dX8_init_26 kb2_24 ?_
  refine n_newa (k := 24) (t0 := 1) (ty := .long) (a0 := (24, .inr (.inl fun _ => 0))) rfl (fun _ h => by cases h) rfl dX8_init_28 aw_long (by decide) rfl (RC_mono hRC (Nat.le_of_ble_eq_true rfl) (Nat.le_of_ble_eq_true rfl)) (by decide) (fun _ => rfl) (fun q3 => ?_)
  refine n_putF (ci := 8) (fty := tyX8 4) [.null, .ref q1, .int (0), .ref q2, .ref q3, .int 0, .int 0, .null, .null, .null, .null, .null, .null, .null] 4 hI rfl uX8 tyX8 tyX8_ok nmX8 (by decide) fw_X8_23 rfl rfl (tyX8_ok 4 (by decide)) rfl rfl (Nat.le_of_ble_eq_true rfl) rfl dX8_init_30 ?_
  refine q_aload 0 dX8_init_33 rfl rfl ?_
  refine q_iconst dX8_init_34 ki2_0 ?_
  refine n_put (ci := 8) (fty := tyX8 5) [.null, .ref q1, .int (0), .ref q2, .ref q3, .int (0), .int 0, .null, .null, .null, .null, .null, .null, .null] 5 rfl uX8 tyX8 tyX8_ok nmX8 (by decide) fw_X8_26 rfl (tyX8_ok 5 (by decide)) rfl rfl (Nat.le_of_ble_eq_true rfl) rfl dX8_init_35 ?_
  refine q_aload 0 dX8_init_38 rfl rfl ?_
  refine q_iconst dX8_init_39 ki2_0 ?_
  refine n_put (ci := 8) (fty := tyX8 6) [.null, .ref q1, .int (0), .ref q2, .ref q3, .int (0), .int (0), .null, .null, .null, .null, .null, .null, .null] 6 rfl uX8 tyX8 tyX8_ok nmX8 (by decide) fw_X8_29 rfl (tyX8_ok 6 (by decide)) rfl rfl (Nat.le_of_ble_eq_true rfl) rfl dX8_init_40 ?_
  refine q_aload 0 dX8_init_43 rfl rfl ?_
  refine q_sipush dX8_init_44 ks2_781 ?_
  refine n_newa (k := 781) (t0 := 0) (ty := .int) (a0 := (781, .inl fun _ => 0)) rfl (fun _ h => by cases h) rfl dX8_init_47 aw_int (by decide) rfl (RC_mono hRC (Nat.le_of_ble_eq_true rfl) (Nat.le_of_ble_eq_true rfl)) (by decide) (fun _ => rfl) (fun q4 => ?_)
  refine n_putF (ci := 8) (fty := tyX8 7) [.null, .ref q1, .int (0), .ref q2, .ref q3, .int (0), .int (0), .ref q4, .null, .null, .null, .null, .null, .null] 7 hI rfl uX8 tyX8 tyX8_ok nmX8 (by decide) fw_X8_32 rfl rfl (tyX8_ok 7 (by decide)) rfl rfl (Nat.le_of_ble_eq_true rfl) rfl dX8_init_49 ?_
  refine q_aload 0 dX8_init_52 rfl rfl ?_
  refine q_sipush dX8_init_53 ks2_2343 ?_
  refine n_newa (k := 2343) (t0 := 1) (ty := .long) (a0 := (2343, .inr (.inl fun _ => 0))) rfl (fun _ h => by cases h) rfl dX8_init_56 aw_long (by decide) rfl (RC_mono hRC (Nat.le_of_ble_eq_true rfl) (Nat.le_of_ble_eq_true rfl)) (by decide) (fun _ => rfl) (fun q5 => ?_)
  refine n_putF (ci := 8) (fty := tyX8 8) [.null, .ref q1, .int (0), .ref q2, .ref q3, .int (0), .int (0), .ref q4, .ref q5, .null, .null, .null, .null, .null] 8 hI rfl uX8 tyX8 tyX8_ok nmX8 (by decide) fw_X8_35 rfl rfl (tyX8_ok 8 (by decide)) rfl rfl (Nat.le_of_ble_eq_true rfl) rfl dX8_init_58 ?_
  refine q_aload 0 dX8_init_61 rfl rfl ?_
  refine q_iconst dX8_init_62 ki2_3 ?_
  refine n_newa (k := 3) (t0 := 1) (ty := .long) (a0 := (3, .inr (.inl fun _ => 0))) rfl (fun _ h => by cases h) rfl dX8_init_63 aw_long (by decide) rfl (RC_mono hRC (Nat.le_of_ble_eq_true rfl) (Nat.le_of_ble_eq_true rfl)) (by decide) (fun _ => rfl) (fun q6 => ?_)
  refine n_putF (ci := 8) (fty := tyX8 9) [.null, .ref q1, .int (0), .ref q2, .ref q3, .int (0), .int (0), .ref q4, .ref q5, .ref q6, .null, .null, .null, .null] 9 hI rfl uX8 tyX8 tyX8_ok nmX8 (by decide) fw_X8_38 rfl rfl (tyX8_ok 9 (by decide)) rfl rfl (Nat.le_of_ble_eq_true rfl) rfl dX8_init_65 ?_
  refine q_aload 0 dX8_init_68 rfl rfl ?_
  refine q_iconst dX8_init_69 ki2_3 ?_
  refine n_newa (k := 3) (t0 := 1) (ty := .long) (a0 := (3, .inr (.inl fun _ => 0))) rfl (fun _ h => by cases h) rfl dX8_init_70 aw_long (by decide) rfl (RC_mono hRC (Nat.le_of_ble_eq_true rfl) (Nat.le_of_ble_eq_true rfl)) (by decide) (fun _ => rfl) (fun q7 => ?_)
  refine n_putF (ci := 8) (fty := tyX8 10) [.null, .ref q1, .int (0), .ref q2, .ref q3, .int (0), .int (0), .ref q4, .ref q5, .ref q6, .ref q7, .null, .null, .null] 10 hI rfl uX8 tyX8 tyX8_ok nmX8 (by decide) fw_X8_41 rfl rfl (tyX8_ok 10 (by decide)) rfl rfl (Nat.le_of_ble_eq_true rfl) rfl dX8_init_72 ?_
  refine q_aload 0 dX8_init_75 rfl rfl ?_
  refine q_iconst dX8_init_76 ki2_3 ?_
  refine n_newa (k := 3) (t0 := 1) (ty := .long) (a0 := (3, .inr (.inl fun _ => 0))) rfl (fun _ h => by cases h) rfl dX8_init_77 aw_long (by decide) rfl (RC_mono hRC (Nat.le_of_ble_eq_true rfl) (Nat.le_of_ble_eq_true rfl)) (by decide) (fun _ => rfl) (fun q8 => ?_)
  refine n_putF (ci := 8) (fty := tyX8 11) [.null, .ref q1, .int (0), .ref q2, .ref q3, .int (0), .int (0), .ref q4, .ref q5, .ref q6, .ref q7, .ref q8, .null, .null] 11 hI rfl uX8 tyX8 tyX8_ok nmX8 (by decide) fw_X8_44 rfl rfl (tyX8_ok 11 (by decide)) rfl rfl (Nat.le_of_ble_eq_true rfl) rfl dX8_init_79 ?_
  refine q_aload 0 dX8_init_82 rfl rfl ?_
  refine q_bipush dX8_init_83 kb2_8 ?_
  refine n_newa (k := 8) (t0 := 1) (ty := .long) (a0 := (8, .inr (.inl fun _ => 0))) rfl (fun _ h => by cases h) rfl dX8_init_85 aw_long (by decide) rfl (RC_mono hRC (Nat.le_of_ble_eq_true rfl) (Nat.le_of_ble_eq_true rfl)) (by decide) (fun _ => rfl) (fun q9 => ?_)
  refine n_putF (ci := 8) (fty := tyX8 12) [.null, .ref q1, .int (0), .ref q2, .ref q3, .int (0), .int (0), .ref q4, .ref q5, .ref q6, .ref q7, .ref q8, .ref q9, .null] 12 hI rfl uX8 tyX8 tyX8_ok nmX8 (by decide) fw_X8_47 rfl rfl (tyX8_ok 12 (by decide)) rfl rfl (Nat.le_of_ble_eq_true rfl) rfl dX8_init_87 ?_
  refine q_aload 0 dX8_init_90 rfl rfl ?_
  refine q_bipush dX8_init_91 kb2_8 ?_
  refine n_newa (k := 8) (t0 := 1) (ty := .long) (a0 := (8, .inr (.inl fun _ => 0))) rfl (fun _ h => by cases h) rfl dX8_init_93 aw_long (by decide) rfl (RC_mono hRC (Nat.le_of_ble_eq_true rfl) (Nat.le_of_ble_eq_true rfl)) (by decide) (fun _ => rfl) (fun q10 => ?_)
  refine n_putF (ci := 8) (fty := tyX8 13) [.null, .ref q1, .int (0), .ref q2, .ref q3, .int (0), .int (0), .ref q4, .ref q5, .ref q6, .ref q7, .ref q8, .ref q9, .ref q10] 13 hI rfl uX8 tyX8 tyX8_ok nmX8 (by decide) fw_X8_50 rfl rfl (tyX8_ok 13 (by decide)) rfl rfl (Nat.le_of_ble_eq_true rfl) rfl dX8_init_95 ?_
  refine q_aload 0 dX8_init_98 rfl rfl ?_
  refine q_aload 1 dX8_init_99 rfl rfl ?_
  refine n_putF (ci := 8) (fty := tyX8 0) [.ref cur, .ref q1, .int (0), .ref q2, .ref q3, .int (0), .int (0), .ref q4, .ref q5, .ref q6, .ref q7, .ref q8, .ref q9, .ref q10] 0 hI rfl uX8 tyX8 tyX8_ok nmX8 (by decide) fw_X8_53 rfl rfl (tyX8_ok 0 (by decide)) rfl rfl (Nat.le_of_ble_eq_true rfl) rfl dX8_init_100 ?_
  exact q_ret dX8_init_103 rfl ⟨fun k => bif Nat.blt k 1 then q else bif Nat.blt k 2 then q1 else bif Nat.blt k 3 then q2 else bif Nat.blt k 4 then q3 else bif Nat.blt k 5 then q4 else bif Nat.blt k 6 then q5 else bif Nat.blt k 7 then q6 else bif Nat.blt k 8 then q7 else bif Nat.blt k 9 then q8 else bif Nat.blt k 10 then q9 else q10, rfl, rfl⟩
def w_X4 (G : XG) (f : Nat → Nat) : va_W := [(f 0, .inr (4, [.int (0), .int (-1), .int (-1), .ref (f 1), .int (0), .ref (f 2)])), (f 1, .inl (G.2.1.1, 148, .inl fun _ => 0)), (f 2, .inl (G.2.1.1, 36, .inl fun _ => 0))]
abbrev si_X4_init : SI := (cX4_init, RX4, 1, none, 1, 12)
set_option maxRecDepth 100000 in
set_option maxHeartbeats 8000000 in
theorem ac_X4 : AC mi_X4_init 1 12 2 184 4 [.int 0, .int 0, .int 0, .null, .int 0, .null] [] (fun G q w => ∃ f : Nat → Nat, f 0 = q ∧ w = w_X4 G f) := by
  refine AC_intro (si := si_X4_init) rfl (by decide +kernel) rfl (Nat.le_of_ble_eq_true rfl) (fun E q hI hRC => ?_)
  refine q_aload 0 dX4_init_0 rfl rfl ?_
  refine q_objInit ow_4 ow_i ow_c dX4_init_1 (by decide) ?_
  refine q_aload 0 dX4_init_4 rfl rfl ?_
  refine q_iconst dX4_init_5 ki2_0 ?_
  refine n_put (ci := 4) (fty := tyX4 0) [.int (0), .int 0, .int 0, .null, .int 0, .null] 0 rfl uX4 tyX4 tyX4_ok nmX4 (by decide) fw_X4_9 rfl (tyX4_ok 0 (by decide)) rfl rfl (Nat.le_of_ble_eq_true rfl) rfl dX4_init_6 ?_
  refine q_aload 0 dX4_init_9 rfl rfl ?_
  refine q_iconst dX4_init_10 ki2_m1 ?_
  refine n_put (ci := 4) (fty := tyX4 1) [.int (0), .int (-1), .int 0, .null, .int 0, .null] 1 rfl uX4 tyX4 tyX4_ok nmX4 (by decide) fw_X4_15 rfl (tyX4_ok 1 (by decide)) rfl rfl (Nat.le_of_ble_eq_true rfl) rfl dX4_init_11 ?_
  refine q_aload 0 dX4_init_14 rfl rfl ?_
  refine q_iconst dX4_init_15 ki2_m1 ?_
  refine n_put (ci := 4) (fty := tyX4 2) [.int (0), .int (-1), .int (-1), .null, .int 0, .null] 2 rfl uX4 tyX4 tyX4_ok nmX4 (by decide) fw_X4_18 rfl (tyX4_ok 2 (by decide)) rfl rfl (Nat.le_of_ble_eq_true rfl) rfl dX4_init_16 ?_
  refine q_aload 0 dX4_init_19 rfl rfl ?_
  refine q_sipush dX4_init_20 ks2_148 ?_
  refine n_newa (k := 148) (t0 := 0) (ty := .int) (a0 := (148, .inl fun _ => 0)) rfl (fun _ h => by cases h) rfl dX4_init_23 aw_int (by decide) rfl (RC_mono hRC (Nat.le_of_ble_eq_true rfl) (Nat.le_of_ble_eq_true rfl)) (by decide) (fun _ => rfl) (fun q1 => ?_)
  refine n_putF (ci := 4) (fty := tyX4 3) [.int (0), .int (-1), .int (-1), .ref q1, .int 0, .null] 3 hI rfl uX4 tyX4 tyX4_ok nmX4 (by decide) fw_X4_21 rfl rfl (tyX4_ok 3 (by decide)) rfl rfl (Nat.le_of_ble_eq_true rfl) rfl dX4_init_25 ?_
  refine q_aload 0 dX4_init_28 rfl rfl ?_
  refine q_iconst dX4_init_29 ki2_0 ?_
  refine n_put (ci := 4) (fty := tyX4 4) [.int (0), .int (-1), .int (-1), .ref q1, .int (0), .null] 4 rfl uX4 tyX4 tyX4_ok nmX4 (by decide) fw_X4_25 rfl (tyX4_ok 4 (by decide)) rfl rfl (Nat.le_of_ble_eq_true rfl) rfl dX4_init_30 ?_
  refine q_aload 0 dX4_init_33 rfl rfl ?_
  refine q_bipush dX4_init_34 kb2_36 ?_
  refine n_newa (k := 36) (t0 := 0) (ty := .int) (a0 := (36, .inl fun _ => 0)) rfl (fun _ h => by cases h) rfl dX4_init_36 aw_int (by decide) rfl (RC_mono hRC (Nat.le_of_ble_eq_true rfl) (Nat.le_of_ble_eq_true rfl)) (by decide) (fun _ => rfl) (fun q2 => ?_)
  refine n_putF (ci := 4) (fty := tyX4 5) [.int (0), .int (-1), .int (-1), .ref q1, .int (0), .ref q2] 5 hI rfl uX4 tyX4 tyX4_ok nmX4 (by decide) fw_X4_28 rfl rfl (tyX4_ok 5 (by decide)) rfl rfl (Nat.le_of_ble_eq_true rfl) rfl dX4_init_38 ?_
  exact q_ret dX4_init_41 rfl ⟨fun k => bif Nat.blt k 1 then q else bif Nat.blt k 2 then q1 else q2, rfl, rfl⟩
