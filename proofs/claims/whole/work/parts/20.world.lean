def d0 : DD := (fun a => bif (Nat.beq a 11 || Nat.beq a 25 || Nat.beq a 39 || Nat.beq a 59) then (fun j => if j < 30 then (-1) else 0) else bif Nat.beq a 83 then (fun j => bif (Nat.beq j 1 || Nat.beq j 2) then (-1) else 0) else fun _ => 0,
  fun a => bif Nat.beq a 93 then (vp_updL ((vp_updL ((vp_updL ((vp_updL ((vp_updL ((vp_updL ((vp_updL ((vp_updL ((vp_updL ((vp_updL (fun _ => 0) (0 : Int32).toNatClampNeg (1802071652))) (1 : Int32).toNatClampNeg (25209))) (2 : Int32).toNatClampNeg (123581014175598))) (3 : Int32).toNatClampNeg (1953658213))) (4 : Int32).toNatClampNeg (1818326117))) (5 : Int32).toNatClampNeg (448444786035))) (6 : Int32).toNatClampNeg (1633969267))) (7 : Int32).toNatClampNeg (465726040947))) (8 : Int32).toNatClampNeg (1953854062))) (9 : Int32).toNatClampNeg (512735736947)) else fun _ => 0)
def alp (f1 f2 : Nat → Nat) (q b : Nat) : Nat → Nat := fun k => bif Nat.blt k 86 then f1 k else bif Nat.blt k 110 then f2 (k - 86) else bif Nat.blt k 111 then q else b
def cO (G : XG) (q : Nat) : Nat × va_E := (q, .inl (G.2.1.2.1, 1, .inr (.inl fun _ => 0)))
theorem wc_0 (G : XG) (f1 f2 : Nat → Nat) (q b : Nat) : (w_X9 G f1)[0]? = some (alp f1 f2 q b 0, cel (G.1, G.2.1, alp f1 f2 q b) d0 0) := rfl
theorem wc_1 (G : XG) (f1 f2 : Nat → Nat) (q b : Nat) : (w_X9 G f1)[1]? = some (alp f1 f2 q b 1, cel (G.1, G.2.1, alp f1 f2 q b) d0 1) := rfl
theorem wc_2 (G : XG) (f1 f2 : Nat → Nat) (q b : Nat) : (w_X9 G f1)[2]? = some (alp f1 f2 q b 2, cel (G.1, G.2.1, alp f1 f2 q b) d0 2) := rfl
theorem wc_3 (G : XG) (f1 f2 : Nat → Nat) (q b : Nat) : (w_X9 G f1)[3]? = some (alp f1 f2 q b 3, cel (G.1, G.2.1, alp f1 f2 q b) d0 3) := rfl
theorem wc_4 (G : XG) (f1 f2 : Nat → Nat) (q b : Nat) : (w_X9 G f1)[4]? = some (alp f1 f2 q b 4, cel (G.1, G.2.1, alp f1 f2 q b) d0 4) := rfl
theorem wc_5 (G : XG) (f1 f2 : Nat → Nat) (q b : Nat) : (w_X9 G f1)[5]? = some (alp f1 f2 q b 5, cel (G.1, G.2.1, alp f1 f2 q b) d0 5) := rfl
theorem wc_6 (G : XG) (f1 f2 : Nat → Nat) (q b : Nat) : (w_X9 G f1)[6]? = some (alp f1 f2 q b 6, cel (G.1, G.2.1, alp f1 f2 q b) d0 6) := rfl
theorem wc_7 (G : XG) (f1 f2 : Nat → Nat) (q b : Nat) : (w_X9 G f1)[7]? = some (alp f1 f2 q b 7, cel (G.1, G.2.1, alp f1 f2 q b) d0 7) := rfl
theorem wc_8 (G : XG) (f1 f2 : Nat → Nat) (q b : Nat) : (w_X9 G f1)[8]? = some (alp f1 f2 q b 8, cel (G.1, G.2.1, alp f1 f2 q b) d0 8) := rfl
theorem wc_9 (G : XG) (f1 f2 : Nat → Nat) (q b : Nat) : (w_X9 G f1)[9]? = some (alp f1 f2 q b 9, cel (G.1, G.2.1, alp f1 f2 q b) d0 9) := rfl
theorem wc_10 (G : XG) (f1 f2 : Nat → Nat) (q b : Nat) : (w_X9 G f1)[10]? = some (alp f1 f2 q b 10, cel (G.1, G.2.1, alp f1 f2 q b) d0 10) := rfl
theorem wc_11 (G : XG) (f1 f2 : Nat → Nat) (q b : Nat) : (w_X9 G f1)[11]? = some (alp f1 f2 q b 11, cel (G.1, G.2.1, alp f1 f2 q b) d0 11) := rfl
theorem wc_12 (G : XG) (f1 f2 : Nat → Nat) (q b : Nat) : (w_X9 G f1)[12]? = some (alp f1 f2 q b 12, cel (G.1, G.2.1, alp f1 f2 q b) d0 12) := rfl
theorem wc_13 (G : XG) (f1 f2 : Nat → Nat) (q b : Nat) : (w_X9 G f1)[13]? = some (alp f1 f2 q b 13, cel (G.1, G.2.1, alp f1 f2 q b) d0 13) := rfl
theorem wc_14 (G : XG) (f1 f2 : Nat → Nat) (q b : Nat) : (w_X9 G f1)[14]? = some (alp f1 f2 q b 14, cel (G.1, G.2.1, alp f1 f2 q b) d0 14) := rfl
theorem wc_15 (G : XG) (f1 f2 : Nat → Nat) (q b : Nat) : (w_X9 G f1)[15]? = some (alp f1 f2 q b 15, cel (G.1, G.2.1, alp f1 f2 q b) d0 15) := rfl
theorem wc_16 (G : XG) (f1 f2 : Nat → Nat) (q b : Nat) : (w_X9 G f1)[16]? = some (alp f1 f2 q b 16, cel (G.1, G.2.1, alp f1 f2 q b) d0 16) := rfl
theorem wc_17 (G : XG) (f1 f2 : Nat → Nat) (q b : Nat) : (w_X9 G f1)[17]? = some (alp f1 f2 q b 17, cel (G.1, G.2.1, alp f1 f2 q b) d0 17) := rfl
theorem wc_18 (G : XG) (f1 f2 : Nat → Nat) (q b : Nat) : (w_X9 G f1)[18]? = some (alp f1 f2 q b 18, cel (G.1, G.2.1, alp f1 f2 q b) d0 18) := rfl
theorem wc_19 (G : XG) (f1 f2 : Nat → Nat) (q b : Nat) : (w_X9 G f1)[19]? = some (alp f1 f2 q b 19, cel (G.1, G.2.1, alp f1 f2 q b) d0 19) := rfl
theorem wc_20 (G : XG) (f1 f2 : Nat → Nat) (q b : Nat) : (w_X9 G f1)[20]? = some (alp f1 f2 q b 20, cel (G.1, G.2.1, alp f1 f2 q b) d0 20) := rfl
theorem wc_21 (G : XG) (f1 f2 : Nat → Nat) (q b : Nat) : (w_X9 G f1)[21]? = some (alp f1 f2 q b 21, cel (G.1, G.2.1, alp f1 f2 q b) d0 21) := rfl
theorem wc_22 (G : XG) (f1 f2 : Nat → Nat) (q b : Nat) : (w_X9 G f1)[22]? = some (alp f1 f2 q b 22, cel (G.1, G.2.1, alp f1 f2 q b) d0 22) := rfl
theorem wc_23 (G : XG) (f1 f2 : Nat → Nat) (q b : Nat) : (w_X9 G f1)[23]? = some (alp f1 f2 q b 23, cel (G.1, G.2.1, alp f1 f2 q b) d0 23) := rfl
theorem wc_24 (G : XG) (f1 f2 : Nat → Nat) (q b : Nat) : (w_X9 G f1)[24]? = some (alp f1 f2 q b 24, cel (G.1, G.2.1, alp f1 f2 q b) d0 24) := rfl
theorem wc_25 (G : XG) (f1 f2 : Nat → Nat) (q b : Nat) : (w_X9 G f1)[25]? = some (alp f1 f2 q b 25, cel (G.1, G.2.1, alp f1 f2 q b) d0 25) := rfl
theorem wc_26 (G : XG) (f1 f2 : Nat → Nat) (q b : Nat) : (w_X9 G f1)[26]? = some (alp f1 f2 q b 26, cel (G.1, G.2.1, alp f1 f2 q b) d0 26) := rfl
theorem wc_27 (G : XG) (f1 f2 : Nat → Nat) (q b : Nat) : (w_X9 G f1)[27]? = some (alp f1 f2 q b 27, cel (G.1, G.2.1, alp f1 f2 q b) d0 27) := rfl
theorem wc_28 (G : XG) (f1 f2 : Nat → Nat) (q b : Nat) : (w_X9 G f1)[28]? = some (alp f1 f2 q b 28, cel (G.1, G.2.1, alp f1 f2 q b) d0 28) := rfl
theorem wc_29 (G : XG) (f1 f2 : Nat → Nat) (q b : Nat) : (w_X9 G f1)[29]? = some (alp f1 f2 q b 29, cel (G.1, G.2.1, alp f1 f2 q b) d0 29) := rfl
theorem wc_30 (G : XG) (f1 f2 : Nat → Nat) (q b : Nat) : (w_X9 G f1)[30]? = some (alp f1 f2 q b 30, cel (G.1, G.2.1, alp f1 f2 q b) d0 30) := rfl
theorem wc_31 (G : XG) (f1 f2 : Nat → Nat) (q b : Nat) : (w_X9 G f1)[31]? = some (alp f1 f2 q b 31, cel (G.1, G.2.1, alp f1 f2 q b) d0 31) := rfl
theorem wc_32 (G : XG) (f1 f2 : Nat → Nat) (q b : Nat) : (w_X9 G f1)[32]? = some (alp f1 f2 q b 32, cel (G.1, G.2.1, alp f1 f2 q b) d0 32) := rfl
theorem wc_33 (G : XG) (f1 f2 : Nat → Nat) (q b : Nat) : (w_X9 G f1)[33]? = some (alp f1 f2 q b 33, cel (G.1, G.2.1, alp f1 f2 q b) d0 33) := rfl
theorem wc_34 (G : XG) (f1 f2 : Nat → Nat) (q b : Nat) : (w_X9 G f1)[34]? = some (alp f1 f2 q b 34, cel (G.1, G.2.1, alp f1 f2 q b) d0 34) := rfl
theorem wc_35 (G : XG) (f1 f2 : Nat → Nat) (q b : Nat) : (w_X9 G f1)[35]? = some (alp f1 f2 q b 35, cel (G.1, G.2.1, alp f1 f2 q b) d0 35) := rfl
theorem wc_36 (G : XG) (f1 f2 : Nat → Nat) (q b : Nat) : (w_X9 G f1)[36]? = some (alp f1 f2 q b 36, cel (G.1, G.2.1, alp f1 f2 q b) d0 36) := rfl
theorem wc_37 (G : XG) (f1 f2 : Nat → Nat) (q b : Nat) : (w_X9 G f1)[37]? = some (alp f1 f2 q b 37, cel (G.1, G.2.1, alp f1 f2 q b) d0 37) := rfl
theorem wc_38 (G : XG) (f1 f2 : Nat → Nat) (q b : Nat) : (w_X9 G f1)[38]? = some (alp f1 f2 q b 38, cel (G.1, G.2.1, alp f1 f2 q b) d0 38) := rfl
theorem wc_39 (G : XG) (f1 f2 : Nat → Nat) (q b : Nat) : (w_X9 G f1)[39]? = some (alp f1 f2 q b 39, cel (G.1, G.2.1, alp f1 f2 q b) d0 39) := rfl
theorem wc_40 (G : XG) (f1 f2 : Nat → Nat) (q b : Nat) : (w_X9 G f1)[40]? = some (alp f1 f2 q b 40, cel (G.1, G.2.1, alp f1 f2 q b) d0 40) := rfl
theorem wc_41 (G : XG) (f1 f2 : Nat → Nat) (q b : Nat) : (w_X9 G f1)[41]? = some (alp f1 f2 q b 41, cel (G.1, G.2.1, alp f1 f2 q b) d0 41) := rfl
theorem wc_42 (G : XG) (f1 f2 : Nat → Nat) (q b : Nat) : (w_X9 G f1)[42]? = some (alp f1 f2 q b 42, cel (G.1, G.2.1, alp f1 f2 q b) d0 42) := rfl
theorem wc_43 (G : XG) (f1 f2 : Nat → Nat) (q b : Nat) : (w_X9 G f1)[43]? = some (alp f1 f2 q b 43, cel (G.1, G.2.1, alp f1 f2 q b) d0 43) := rfl
theorem wc_44 (G : XG) (f1 f2 : Nat → Nat) (q b : Nat) : (w_X9 G f1)[44]? = some (alp f1 f2 q b 44, cel (G.1, G.2.1, alp f1 f2 q b) d0 44) := rfl
theorem wc_45 (G : XG) (f1 f2 : Nat → Nat) (q b : Nat) : (w_X9 G f1)[45]? = some (alp f1 f2 q b 45, cel (G.1, G.2.1, alp f1 f2 q b) d0 45) := rfl
theorem wc_46 (G : XG) (f1 f2 : Nat → Nat) (q b : Nat) : (w_X9 G f1)[46]? = some (alp f1 f2 q b 46, cel (G.1, G.2.1, alp f1 f2 q b) d0 46) := rfl
theorem wc_47 (G : XG) (f1 f2 : Nat → Nat) (q b : Nat) : (w_X9 G f1)[47]? = some (alp f1 f2 q b 47, cel (G.1, G.2.1, alp f1 f2 q b) d0 47) := rfl
theorem wc_48 (G : XG) (f1 f2 : Nat → Nat) (q b : Nat) : (w_X9 G f1)[48]? = some (alp f1 f2 q b 48, cel (G.1, G.2.1, alp f1 f2 q b) d0 48) := rfl
theorem wc_49 (G : XG) (f1 f2 : Nat → Nat) (q b : Nat) : (w_X9 G f1)[49]? = some (alp f1 f2 q b 49, cel (G.1, G.2.1, alp f1 f2 q b) d0 49) := rfl
theorem wc_50 (G : XG) (f1 f2 : Nat → Nat) (q b : Nat) : (w_X9 G f1)[50]? = some (alp f1 f2 q b 50, cel (G.1, G.2.1, alp f1 f2 q b) d0 50) := rfl
theorem wc_51 (G : XG) (f1 f2 : Nat → Nat) (q b : Nat) : (w_X9 G f1)[51]? = some (alp f1 f2 q b 51, cel (G.1, G.2.1, alp f1 f2 q b) d0 51) := rfl
theorem wc_52 (G : XG) (f1 f2 : Nat → Nat) (q b : Nat) : (w_X9 G f1)[52]? = some (alp f1 f2 q b 52, cel (G.1, G.2.1, alp f1 f2 q b) d0 52) := rfl
theorem wc_53 (G : XG) (f1 f2 : Nat → Nat) (q b : Nat) : (w_X9 G f1)[53]? = some (alp f1 f2 q b 53, cel (G.1, G.2.1, alp f1 f2 q b) d0 53) := rfl
theorem wc_54 (G : XG) (f1 f2 : Nat → Nat) (q b : Nat) : (w_X9 G f1)[54]? = some (alp f1 f2 q b 54, cel (G.1, G.2.1, alp f1 f2 q b) d0 54) := rfl
theorem wc_55 (G : XG) (f1 f2 : Nat → Nat) (q b : Nat) : (w_X9 G f1)[55]? = some (alp f1 f2 q b 55, cel (G.1, G.2.1, alp f1 f2 q b) d0 55) := rfl
theorem wc_56 (G : XG) (f1 f2 : Nat → Nat) (q b : Nat) : (w_X9 G f1)[56]? = some (alp f1 f2 q b 56, cel (G.1, G.2.1, alp f1 f2 q b) d0 56) := rfl
theorem wc_57 (G : XG) (f1 f2 : Nat → Nat) (q b : Nat) : (w_X9 G f1)[57]? = some (alp f1 f2 q b 57, cel (G.1, G.2.1, alp f1 f2 q b) d0 57) := rfl
theorem wc_58 (G : XG) (f1 f2 : Nat → Nat) (q b : Nat) : (w_X9 G f1)[58]? = some (alp f1 f2 q b 58, cel (G.1, G.2.1, alp f1 f2 q b) d0 58) := rfl
theorem wc_59 (G : XG) (f1 f2 : Nat → Nat) (q b : Nat) : (w_X9 G f1)[59]? = some (alp f1 f2 q b 59, cel (G.1, G.2.1, alp f1 f2 q b) d0 59) := rfl
theorem wc_60 (G : XG) (f1 f2 : Nat → Nat) (q b : Nat) : (w_X9 G f1)[60]? = some (alp f1 f2 q b 60, cel (G.1, G.2.1, alp f1 f2 q b) d0 60) := rfl
theorem wc_61 (G : XG) (f1 f2 : Nat → Nat) (q b : Nat) : (w_X9 G f1)[61]? = some (alp f1 f2 q b 61, cel (G.1, G.2.1, alp f1 f2 q b) d0 61) := rfl
theorem wc_62 (G : XG) (f1 f2 : Nat → Nat) (q b : Nat) : (w_X9 G f1)[62]? = some (alp f1 f2 q b 62, cel (G.1, G.2.1, alp f1 f2 q b) d0 62) := rfl
theorem wc_63 (G : XG) (f1 f2 : Nat → Nat) (q b : Nat) : (w_X9 G f1)[63]? = some (alp f1 f2 q b 63, cel (G.1, G.2.1, alp f1 f2 q b) d0 63) := rfl
theorem wc_64 (G : XG) (f1 f2 : Nat → Nat) (q b : Nat) : (w_X9 G f1)[64]? = some (alp f1 f2 q b 64, cel (G.1, G.2.1, alp f1 f2 q b) d0 64) := rfl
theorem wc_65 (G : XG) (f1 f2 : Nat → Nat) (q b : Nat) : (w_X9 G f1)[65]? = some (alp f1 f2 q b 65, cel (G.1, G.2.1, alp f1 f2 q b) d0 65) := rfl
theorem wc_66 (G : XG) (f1 f2 : Nat → Nat) (q b : Nat) : (w_X9 G f1)[66]? = some (alp f1 f2 q b 66, cel (G.1, G.2.1, alp f1 f2 q b) d0 66) := rfl
theorem wc_67 (G : XG) (f1 f2 : Nat → Nat) (q b : Nat) : (w_X9 G f1)[67]? = some (alp f1 f2 q b 67, cel (G.1, G.2.1, alp f1 f2 q b) d0 67) := rfl
theorem wc_68 (G : XG) (f1 f2 : Nat → Nat) (q b : Nat) : (w_X9 G f1)[68]? = some (alp f1 f2 q b 68, cel (G.1, G.2.1, alp f1 f2 q b) d0 68) := rfl
theorem wc_69 (G : XG) (f1 f2 : Nat → Nat) (q b : Nat) : (w_X9 G f1)[69]? = some (alp f1 f2 q b 69, cel (G.1, G.2.1, alp f1 f2 q b) d0 69) := rfl
theorem wc_70 (G : XG) (f1 f2 : Nat → Nat) (q b : Nat) : (w_X9 G f1)[70]? = some (alp f1 f2 q b 70, cel (G.1, G.2.1, alp f1 f2 q b) d0 70) := rfl
theorem wc_71 (G : XG) (f1 f2 : Nat → Nat) (q b : Nat) : (w_X9 G f1)[71]? = some (alp f1 f2 q b 71, cel (G.1, G.2.1, alp f1 f2 q b) d0 71) := rfl
theorem wc_72 (G : XG) (f1 f2 : Nat → Nat) (q b : Nat) : (w_X9 G f1)[72]? = some (alp f1 f2 q b 72, cel (G.1, G.2.1, alp f1 f2 q b) d0 72) := rfl
theorem wc_73 (G : XG) (f1 f2 : Nat → Nat) (q b : Nat) : (w_X9 G f1)[73]? = some (alp f1 f2 q b 73, cel (G.1, G.2.1, alp f1 f2 q b) d0 73) := rfl
theorem wc_74 (G : XG) (f1 f2 : Nat → Nat) (q b : Nat) : (w_X9 G f1)[74]? = some (alp f1 f2 q b 74, cel (G.1, G.2.1, alp f1 f2 q b) d0 74) := rfl
theorem wc_75 (G : XG) (f1 f2 : Nat → Nat) (q b : Nat) : (w_X9 G f1)[75]? = some (alp f1 f2 q b 75, cel (G.1, G.2.1, alp f1 f2 q b) d0 75) := rfl
theorem wc_76 (G : XG) (f1 f2 : Nat → Nat) (q b : Nat) : (w_X9 G f1)[76]? = some (alp f1 f2 q b 76, cel (G.1, G.2.1, alp f1 f2 q b) d0 76) := rfl
theorem wc_77 (G : XG) (f1 f2 : Nat → Nat) (q b : Nat) : (w_X9 G f1)[77]? = some (alp f1 f2 q b 77, cel (G.1, G.2.1, alp f1 f2 q b) d0 77) := rfl
theorem wc_78 (G : XG) (f1 f2 : Nat → Nat) (q b : Nat) : (w_X9 G f1)[78]? = some (alp f1 f2 q b 78, cel (G.1, G.2.1, alp f1 f2 q b) d0 78) := rfl
theorem wc_79 (G : XG) (f1 f2 : Nat → Nat) (q b : Nat) : (w_X9 G f1)[79]? = some (alp f1 f2 q b 79, cel (G.1, G.2.1, alp f1 f2 q b) d0 79) := rfl
theorem wc_80 (G : XG) (f1 f2 : Nat → Nat) (q b : Nat) : (w_X9 G f1)[80]? = some (alp f1 f2 q b 80, cel (G.1, G.2.1, alp f1 f2 q b) d0 80) := rfl
theorem wc_81 (G : XG) (f1 f2 : Nat → Nat) (q b : Nat) : (w_X9 G f1)[81]? = some (alp f1 f2 q b 81, cel (G.1, G.2.1, alp f1 f2 q b) d0 81) := rfl
theorem wc_82 (G : XG) (f1 f2 : Nat → Nat) (q b : Nat) : (w_X9 G f1)[82]? = some (alp f1 f2 q b 82, cel (G.1, G.2.1, alp f1 f2 q b) d0 82) := rfl
theorem wc_83 (G : XG) (f1 f2 : Nat → Nat) (q b : Nat) : (w_X9 G f1)[83]? = some (alp f1 f2 q b 83, cel (G.1, G.2.1, alp f1 f2 q b) d0 83) := rfl
theorem wc_84 (G : XG) (f1 f2 : Nat → Nat) (q b : Nat) : (w_X9 G f1)[84]? = some (alp f1 f2 q b 84, cel (G.1, G.2.1, alp f1 f2 q b) d0 84) := rfl
theorem wc_85 (G : XG) (f1 f2 : Nat → Nat) (q b : Nat) : (w_X9 G f1)[85]? = some (alp f1 f2 q b 85, cel (G.1, G.2.1, alp f1 f2 q b) d0 85) := rfl
theorem wc_86 (G : XG) (f1 f2 : Nat → Nat) (q b : Nat) : (w_X10 G f2)[0]? = some (alp f1 f2 q b 86, cel (G.1, G.2.1, alp f1 f2 q b) d0 86) := rfl
theorem wc_87 (G : XG) (f1 f2 : Nat → Nat) (q b : Nat) : (w_X10 G f2)[1]? = some (alp f1 f2 q b 87, cel (G.1, G.2.1, alp f1 f2 q b) d0 87) := rfl
theorem wc_88 (G : XG) (f1 f2 : Nat → Nat) (q b : Nat) : (w_X10 G f2)[2]? = some (alp f1 f2 q b 88, cel (G.1, G.2.1, alp f1 f2 q b) d0 88) := rfl
theorem wc_89 (G : XG) (f1 f2 : Nat → Nat) (q b : Nat) : (w_X10 G f2)[3]? = some (alp f1 f2 q b 89, cel (G.1, G.2.1, alp f1 f2 q b) d0 89) := rfl
theorem wc_90 (G : XG) (f1 f2 : Nat → Nat) (q b : Nat) : (w_X10 G f2)[4]? = some (alp f1 f2 q b 90, cel (G.1, G.2.1, alp f1 f2 q b) d0 90) := rfl
theorem wc_91 (G : XG) (f1 f2 : Nat → Nat) (q b : Nat) : (w_X10 G f2)[5]? = some (alp f1 f2 q b 91, cel (G.1, G.2.1, alp f1 f2 q b) d0 91) := rfl
theorem wc_92 (G : XG) (f1 f2 : Nat → Nat) (q b : Nat) : (w_X10 G f2)[6]? = some (alp f1 f2 q b 92, cel (G.1, G.2.1, alp f1 f2 q b) d0 92) := rfl
theorem wc_93 (G : XG) (f1 f2 : Nat → Nat) (q b : Nat) : (w_X10 G f2)[7]? = some (alp f1 f2 q b 93, cel (G.1, G.2.1, alp f1 f2 q b) d0 93) := rfl
theorem wc_94 (G : XG) (f1 f2 : Nat → Nat) (q b : Nat) : (w_X10 G f2)[8]? = some (alp f1 f2 q b 94, cel (G.1, G.2.1, alp f1 f2 q b) d0 94) := rfl
theorem wc_95 (G : XG) (f1 f2 : Nat → Nat) (q b : Nat) : (w_X10 G f2)[9]? = some (alp f1 f2 q b 95, cel (G.1, G.2.1, alp f1 f2 q b) d0 95) := rfl
theorem wc_96 (G : XG) (f1 f2 : Nat → Nat) (q b : Nat) : (w_X10 G f2)[10]? = some (alp f1 f2 q b 96, cel (G.1, G.2.1, alp f1 f2 q b) d0 96) := rfl
theorem wc_97 (G : XG) (f1 f2 : Nat → Nat) (q b : Nat) : (w_X10 G f2)[11]? = some (alp f1 f2 q b 97, cel (G.1, G.2.1, alp f1 f2 q b) d0 97) := rfl
theorem wc_98 (G : XG) (f1 f2 : Nat → Nat) (q b : Nat) : (w_X10 G f2)[12]? = some (alp f1 f2 q b 98, cel (G.1, G.2.1, alp f1 f2 q b) d0 98) := rfl
theorem wc_99 (G : XG) (f1 f2 : Nat → Nat) (q b : Nat) : (w_X10 G f2)[13]? = some (alp f1 f2 q b 99, cel (G.1, G.2.1, alp f1 f2 q b) d0 99) := rfl
theorem wc_100 (G : XG) (f1 f2 : Nat → Nat) (q b : Nat) : (w_X10 G f2)[14]? = some (alp f1 f2 q b 100, cel (G.1, G.2.1, alp f1 f2 q b) d0 100) := rfl
theorem wc_101 (G : XG) (f1 f2 : Nat → Nat) (q b : Nat) : (w_X10 G f2)[15]? = some (alp f1 f2 q b 101, cel (G.1, G.2.1, alp f1 f2 q b) d0 101) := rfl
theorem wc_102 (G : XG) (f1 f2 : Nat → Nat) (q b : Nat) : (w_X10 G f2)[16]? = some (alp f1 f2 q b 102, cel (G.1, G.2.1, alp f1 f2 q b) d0 102) := rfl
theorem wc_103 (G : XG) (f1 f2 : Nat → Nat) (q b : Nat) : (w_X10 G f2)[17]? = some (alp f1 f2 q b 103, cel (G.1, G.2.1, alp f1 f2 q b) d0 103) := rfl
theorem wc_104 (G : XG) (f1 f2 : Nat → Nat) (q b : Nat) : (w_X10 G f2)[18]? = some (alp f1 f2 q b 104, cel (G.1, G.2.1, alp f1 f2 q b) d0 104) := rfl
theorem wc_105 (G : XG) (f1 f2 : Nat → Nat) (q b : Nat) : (w_X10 G f2)[19]? = some (alp f1 f2 q b 105, cel (G.1, G.2.1, alp f1 f2 q b) d0 105) := rfl
theorem wc_106 (G : XG) (f1 f2 : Nat → Nat) (q b : Nat) : (w_X10 G f2)[20]? = some (alp f1 f2 q b 106, cel (G.1, G.2.1, alp f1 f2 q b) d0 106) := rfl
theorem wc_107 (G : XG) (f1 f2 : Nat → Nat) (q b : Nat) : (w_X10 G f2)[21]? = some (alp f1 f2 q b 107, cel (G.1, G.2.1, alp f1 f2 q b) d0 107) := rfl
theorem wc_108 (G : XG) (f1 f2 : Nat → Nat) (q b : Nat) : (w_X10 G f2)[22]? = some (alp f1 f2 q b 108, cel (G.1, G.2.1, alp f1 f2 q b) d0 108) := rfl
theorem wc_109 (G : XG) (f1 f2 : Nat → Nat) (q b : Nat) : (w_X10 G f2)[23]? = some (alp f1 f2 q b 109, cel (G.1, G.2.1, alp f1 f2 q b) d0 109) := rfl
theorem wAA {A B C : va_W} {k : Nat} {x : Nat × va_E} (h : A[k]? = some x) : ((A ++ B) ++ C)[k]? = some x := by
  have hk := (List.getElem?_eq_some_iff.mp h).1
  rw [List.getElem?_append_left (by rw [List.length_append]; omega), List.getElem?_append_left hk]
  exact h
theorem wBB {A B C : va_W} {n k : Nat} {x : Nat × va_E} (hA : A.length = n) (h : B[k]? = some x) : ((A ++ B) ++ C)[n + k]? = some x := by
  have hk := (List.getElem?_eq_some_iff.mp h).1
  rw [List.getElem?_append_left (by rw [List.length_append]; omega), List.getElem?_append_right (by omega), show n + k - A.length = k by omega]
  exact h
theorem wCC {A B C : va_W} {n k : Nat} {x : Nat × va_E} (hA : (A ++ B).length = n) (h : C[k]? = some x) : ((A ++ B) ++ C)[n + k]? = some x := by
  rw [List.getElem?_append_right (by omega), show n + k - (A ++ B).length = k by omega]
  exact h
theorem wl9 (G : XG) (f : Nat → Nat) : (w_X9 G f).length = 86 := rfl
theorem wl10 (G : XG) (f : Nat → Nat) : (w_X10 G f).length = 24 := rfl
theorem wlS (G : XG) (f g : Nat → Nat) : (w_X9 G f ++ w_X10 G g).length = 110 := by rw [List.length_append, wl9, wl10]
set_option maxRecDepth 100000 in
theorem world_ix (G : XG) (f1 f2 : Nat → Nat) (q b : Nat) : ∀ k, k < NLb → ((w_X9 G f1 ++ w_X10 G f2) ++ [cO G q])[k]? = some (alp f1 f2 q b k, cel (G.1, G.2.1, alp f1 f2 q b) d0 k) := fun k hk => match k, hk with
  | 0, _ => wAA (wc_0 G f1 f2 q b)
  | 1, _ => wAA (wc_1 G f1 f2 q b)
  | 2, _ => wAA (wc_2 G f1 f2 q b)
  | 3, _ => wAA (wc_3 G f1 f2 q b)
  | 4, _ => wAA (wc_4 G f1 f2 q b)
  | 5, _ => wAA (wc_5 G f1 f2 q b)
  | 6, _ => wAA (wc_6 G f1 f2 q b)
  | 7, _ => wAA (wc_7 G f1 f2 q b)
  | 8, _ => wAA (wc_8 G f1 f2 q b)
  | 9, _ => wAA (wc_9 G f1 f2 q b)
  | 10, _ => wAA (wc_10 G f1 f2 q b)
  | 11, _ => wAA (wc_11 G f1 f2 q b)
  | 12, _ => wAA (wc_12 G f1 f2 q b)
  | 13, _ => wAA (wc_13 G f1 f2 q b)
  | 14, _ => wAA (wc_14 G f1 f2 q b)
  | 15, _ => wAA (wc_15 G f1 f2 q b)
  | 16, _ => wAA (wc_16 G f1 f2 q b)
  | 17, _ => wAA (wc_17 G f1 f2 q b)
  | 18, _ => wAA (wc_18 G f1 f2 q b)
  | 19, _ => wAA (wc_19 G f1 f2 q b)
  | 20, _ => wAA (wc_20 G f1 f2 q b)
  | 21, _ => wAA (wc_21 G f1 f2 q b)
  | 22, _ => wAA (wc_22 G f1 f2 q b)
  | 23, _ => wAA (wc_23 G f1 f2 q b)
  | 24, _ => wAA (wc_24 G f1 f2 q b)
  | 25, _ => wAA (wc_25 G f1 f2 q b)
  | 26, _ => wAA (wc_26 G f1 f2 q b)
  | 27, _ => wAA (wc_27 G f1 f2 q b)
  | 28, _ => wAA (wc_28 G f1 f2 q b)
  | 29, _ => wAA (wc_29 G f1 f2 q b)
  | 30, _ => wAA (wc_30 G f1 f2 q b)
  | 31, _ => wAA (wc_31 G f1 f2 q b)
  | 32, _ => wAA (wc_32 G f1 f2 q b)
  | 33, _ => wAA (wc_33 G f1 f2 q b)
  | 34, _ => wAA (wc_34 G f1 f2 q b)
  | 35, _ => wAA (wc_35 G f1 f2 q b)
  | 36, _ => wAA (wc_36 G f1 f2 q b)
  | 37, _ => wAA (wc_37 G f1 f2 q b)
  | 38, _ => wAA (wc_38 G f1 f2 q b)
  | 39, _ => wAA (wc_39 G f1 f2 q b)
  | 40, _ => wAA (wc_40 G f1 f2 q b)
  | 41, _ => wAA (wc_41 G f1 f2 q b)
  | 42, _ => wAA (wc_42 G f1 f2 q b)
  | 43, _ => wAA (wc_43 G f1 f2 q b)
  | 44, _ => wAA (wc_44 G f1 f2 q b)
  | 45, _ => wAA (wc_45 G f1 f2 q b)
  | 46, _ => wAA (wc_46 G f1 f2 q b)
  | 47, _ => wAA (wc_47 G f1 f2 q b)
  | 48, _ => wAA (wc_48 G f1 f2 q b)
  | 49, _ => wAA (wc_49 G f1 f2 q b)
  | 50, _ => wAA (wc_50 G f1 f2 q b)
  | 51, _ => wAA (wc_51 G f1 f2 q b)
  | 52, _ => wAA (wc_52 G f1 f2 q b)
  | 53, _ => wAA (wc_53 G f1 f2 q b)
  | 54, _ => wAA (wc_54 G f1 f2 q b)
  | 55, _ => wAA (wc_55 G f1 f2 q b)
  | 56, _ => wAA (wc_56 G f1 f2 q b)
  | 57, _ => wAA (wc_57 G f1 f2 q b)
  | 58, _ => wAA (wc_58 G f1 f2 q b)
  | 59, _ => wAA (wc_59 G f1 f2 q b)
  | 60, _ => wAA (wc_60 G f1 f2 q b)
  | 61, _ => wAA (wc_61 G f1 f2 q b)
  | 62, _ => wAA (wc_62 G f1 f2 q b)
  | 63, _ => wAA (wc_63 G f1 f2 q b)
  | 64, _ => wAA (wc_64 G f1 f2 q b)
  | 65, _ => wAA (wc_65 G f1 f2 q b)
  | 66, _ => wAA (wc_66 G f1 f2 q b)
  | 67, _ => wAA (wc_67 G f1 f2 q b)
  | 68, _ => wAA (wc_68 G f1 f2 q b)
  | 69, _ => wAA (wc_69 G f1 f2 q b)
  | 70, _ => wAA (wc_70 G f1 f2 q b)
  | 71, _ => wAA (wc_71 G f1 f2 q b)
  | 72, _ => wAA (wc_72 G f1 f2 q b)
  | 73, _ => wAA (wc_73 G f1 f2 q b)
  | 74, _ => wAA (wc_74 G f1 f2 q b)
  | 75, _ => wAA (wc_75 G f1 f2 q b)
  | 76, _ => wAA (wc_76 G f1 f2 q b)
  | 77, _ => wAA (wc_77 G f1 f2 q b)
  | 78, _ => wAA (wc_78 G f1 f2 q b)
  | 79, _ => wAA (wc_79 G f1 f2 q b)
  | 80, _ => wAA (wc_80 G f1 f2 q b)
  | 81, _ => wAA (wc_81 G f1 f2 q b)
  | 82, _ => wAA (wc_82 G f1 f2 q b)
  | 83, _ => wAA (wc_83 G f1 f2 q b)
  | 84, _ => wAA (wc_84 G f1 f2 q b)
  | 85, _ => wAA (wc_85 G f1 f2 q b)
  | 86, _ => wBB (n := 86) (k := 0) (wl9 G f1) (wc_86 G f1 f2 q b)
  | 87, _ => wBB (n := 86) (k := 1) (wl9 G f1) (wc_87 G f1 f2 q b)
  | 88, _ => wBB (n := 86) (k := 2) (wl9 G f1) (wc_88 G f1 f2 q b)
  | 89, _ => wBB (n := 86) (k := 3) (wl9 G f1) (wc_89 G f1 f2 q b)
  | 90, _ => wBB (n := 86) (k := 4) (wl9 G f1) (wc_90 G f1 f2 q b)
  | 91, _ => wBB (n := 86) (k := 5) (wl9 G f1) (wc_91 G f1 f2 q b)
  | 92, _ => wBB (n := 86) (k := 6) (wl9 G f1) (wc_92 G f1 f2 q b)
  | 93, _ => wBB (n := 86) (k := 7) (wl9 G f1) (wc_93 G f1 f2 q b)
  | 94, _ => wBB (n := 86) (k := 8) (wl9 G f1) (wc_94 G f1 f2 q b)
  | 95, _ => wBB (n := 86) (k := 9) (wl9 G f1) (wc_95 G f1 f2 q b)
  | 96, _ => wBB (n := 86) (k := 10) (wl9 G f1) (wc_96 G f1 f2 q b)
  | 97, _ => wBB (n := 86) (k := 11) (wl9 G f1) (wc_97 G f1 f2 q b)
  | 98, _ => wBB (n := 86) (k := 12) (wl9 G f1) (wc_98 G f1 f2 q b)
  | 99, _ => wBB (n := 86) (k := 13) (wl9 G f1) (wc_99 G f1 f2 q b)
  | 100, _ => wBB (n := 86) (k := 14) (wl9 G f1) (wc_100 G f1 f2 q b)
  | 101, _ => wBB (n := 86) (k := 15) (wl9 G f1) (wc_101 G f1 f2 q b)
  | 102, _ => wBB (n := 86) (k := 16) (wl9 G f1) (wc_102 G f1 f2 q b)
  | 103, _ => wBB (n := 86) (k := 17) (wl9 G f1) (wc_103 G f1 f2 q b)
  | 104, _ => wBB (n := 86) (k := 18) (wl9 G f1) (wc_104 G f1 f2 q b)
  | 105, _ => wBB (n := 86) (k := 19) (wl9 G f1) (wc_105 G f1 f2 q b)
  | 106, _ => wBB (n := 86) (k := 20) (wl9 G f1) (wc_106 G f1 f2 q b)
  | 107, _ => wBB (n := 86) (k := 21) (wl9 G f1) (wc_107 G f1 f2 q b)
  | 108, _ => wBB (n := 86) (k := 22) (wl9 G f1) (wc_108 G f1 f2 q b)
  | 109, _ => wBB (n := 86) (k := 23) (wl9 G f1) (wc_109 G f1 f2 q b)
  | 110, _ => wCC (n := 110) (k := 0) (wlS G f1 f2) rfl
  | k + 111, h => absurd h (Nat.not_lt.mpr (Nat.le_add_left 111 k))
