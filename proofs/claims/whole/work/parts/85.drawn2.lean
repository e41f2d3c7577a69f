-- PURE ROWS: drawn, whole
theorem isIn_40 (x : Int32) : (∃ n, 1 ≤ n ∧ n ≤ 40 ∧ x = nI n ∧ (¬ x < (1 : Int32)) ∧ (¬ (40 : Int32) < x) ∧ ∀ d, f_X10_isIn x (1 : Int32) (40 : Int32) d = some (1, d)) ∨ ((x < (1 : Int32) ∨ (¬ x < (1 : Int32) ∧ (40 : Int32) < x)) ∧ ∀ d, f_X10_isIn x (1 : Int32) (40 : Int32) d = some (0, d)) := by
  by_cases c1 : x < (1 : Int32)
  · right
    refine ⟨Or.inl c1, fun d => ?_⟩
    unfold f_X10_isIn
    rw [if_pos c1]
  · by_cases c2 : (40 : Int32) < x
    · right
      refine ⟨Or.inr ⟨c1, c2⟩, fun d => ?_⟩
      unfold f_X10_isIn
      rw [if_neg c1, if_pos c2]
    · left
      have c0 : ¬ x < 0 := by
        intro z
        apply c1
        have e0 : (0 : Int32).toInt = 0 := by decide
        have e1 : (1 : Int32).toInt = 1 := by decide
        rw [Int32.lt_iff_toInt_lt] at z ⊢
        omega
      obtain ⟨n, hn, rfl⟩ := nI_of c0
      have d1 : ¬ n < 1 := fun z => c1 ((nI_ltI (b := 1) hn (by omega)).mpr z)
      have d2 : ¬ 40 < n := fun z => c2 ((nI_ltI (a := 40) (by omega) hn).mpr z)
      refine ⟨n, by omega, by omega, rfl, c1, c2, fun d => ?_⟩
      unfold f_X10_isIn
      rw [if_neg c1, if_neg c2]
theorem tp_g {d : DD} (T : TP d) : ∃ (n : Nat) (g : Nat → Nat), n ≤ 940 ∧ (∀ i, g i < 256) ∧ d.1 0 1 = nI n ∧ d.1 86 2 = nI n ∧ (∀ i, i < n → d.1 1 i = nI (g i)) ∧ ∀ i, i < n → d.1 87 i &&& 255 = nI (g i) := by
  obtain ⟨n, hn, t1, t2, t3⟩ := T
  refine ⟨n, fun i => if hi : i < n then Classical.choose (t3 i hi) else 0, hn, fun i => ?_, t1, t2, fun i hi => ?_, fun i hi => ?_⟩
  · by_cases c : i < n
    · simp only [c, dite_true]
      exact (Classical.choose_spec (t3 i c)).1
    · simp only [c, dite_false]
      omega
  · simp only [hi, dite_true]
    exact (Classical.choose_spec (t3 i hi)).2.1
  · simp only [hi, dite_true]
    exact (Classical.choose_spec (t3 i hi)).2.2
theorem m_drawn0 {h} {d : DD} (V : VH h) (M : HM (tkn d 940) h) {n : Nat} (hn : n ≤ 940) (t : d.1 86 2 = nI n) (x y : Int32) (I : ∀ d, f_X10_isIn x (1 : Int32) (40 : Int32) d = some (1, d)) (h1 : 0 < h 1) (e : n = h 1) : f_X10_drawn x y d = f_X10_drawn_53 FU x y 1 0 (tkn d 940) := by
  have v1 := V.2.1
  have r1 : (tkn d 940).1 88 (1 : Int32).toNatClampNeg = nI (h 1) := M.1 1
  unfold f_X10_drawn
  rw [bd_e, e_X10_taken, ob_e, I, ob_e]
  dsimp only
  rw [if_neg (show ¬ (1 : Int32) = 0 by decide), if_pos e1_88, r1, if_pos (show (0 : Int32) < nI (h 1) from (nI_ltI (a := 0) (by omega) (by omega)).mpr h1), if_pos e1_88, tkn_size, t, if_pos (by rw [e])]
theorem m_drawnF {h} {d : DD} (V : VH h) (M : HM (tkn d 940) h) {n : Nat} (hn : n ≤ 940) (t : d.1 86 2 = nI n) (x y : Int32) (c : (∀ d, f_X10_isIn x (1 : Int32) (40 : Int32) d = some (0, d)) ∨ ((∀ d, f_X10_isIn x (1 : Int32) (40 : Int32) d = some (1, d)) ∧ (h 1 = 0 ∨ ¬ n = h 1))) : f_X10_drawn x y d = some (0, tkn d 940) := by
  have v0 := V.1
  have v1 := V.2.1
  have r1 : (tkn d 940).1 88 (1 : Int32).toNatClampNeg = nI (h 1) := M.1 1
  have z : f_X10_drawn_53 FU x y 0 0 (tkn d 940) = some (0, tkn d 940) := m53_0 V M x y (h 0) 0 FU (by omega) (by unfold FU; omega)
  unfold f_X10_drawn
  rw [bd_e, e_X10_taken, ob_e]
  dsimp only
  rcases c with I | ⟨I, c⟩
  · rw [I, ob_e]
    dsimp only
    rw [if_pos rfl]
    exact z
  · rw [I, ob_e]
    dsimp only
    rw [if_neg (show ¬ (1 : Int32) = 0 by decide), if_pos e1_88, r1]
    by_cases c1 : h 1 = 0
    · rw [if_neg (show ¬ (0 : Int32) < nI (h 1) from fun q => by have := (nI_ltI (a := 0) (by omega) (by omega)).mp q; omega)]
      exact z
    · rw [if_pos (show (0 : Int32) < nI (h 1) from (nI_ltI (a := 0) (by omega) (by omega)).mpr (by omega)), if_pos e1_88, tkn_size, t, if_neg (fun q => by have := (nI_eq (by omega) (by omega)).mp q; omega)]
      exact z
theorem hm_keep {d d' : DD} {h : Nat → Nat} (M : HM d h) (e1 : d'.1 88 = d.1 88) (e2 : d'.1 94 = d.1 94) (e3 : d'.1 95 = d.1 95) : HM d' h := by
  unfold HM at M ⊢
  rw [e1, e2, e3]
  exact M
theorem not_all {P : Nat → Prop} {n : Nat} (c : ¬ ∀ j, j < n → P j) : ∃ j, j < n ∧ ¬ P j := by
  apply Classical.byContradiction
  intro z
  apply c
  intro j hj
  apply Classical.byContradiction
  intro q
  exact z ⟨j, hj, q⟩
theorem s_drawn {d : DD} (R : RZ d) (x y : Int32) : EQR (f_X9_drawn x y) (f_X10_drawn x y) d := by
  have RR := R
  obtain ⟨⟨h, V, R1⟩, T, R3, R4, R5, R6⟩ := R
  obtain ⟨n, g, hn, hg, t1, t2, gc, gm⟩ := tp_g T
  have v0 := V.1
  have v1 := V.2.1
  have k1 : ∀ a, a ≠ 0 → (u1 d 0 1 0).1 a = d.1 a := by
    intro a h0
    funext j
    rw [u1_at, if_neg (by omega)]
  have RD : RH (u1 d 0 1 0) h := rh_cong R1 (fun a ha => ⟨k1 a (fun z => by rw [z] at ha; exact absurd ha (by decide)), rfl⟩)
  obtain ⟨H, M⟩ := RD
  have MT : HM (tkn (u1 d 0 1 0) 940) h := hm_keep M (tkn_1 (by decide)) (tkn_1 (by decide)) (tkn_1 (by decide))
  have t2' : (u1 d 0 1 0).1 86 2 = nI n := by rw [k1 86 (by decide)]; exact t2
  have gc' : ∀ i, i < n → (u1 d 0 1 0).1 1 i = nI (g i) := fun i hi => by rw [k1 1 (by decide)]; exact gc i hi
  have gm' : ∀ i, i < n → (tkn (u1 d 0 1 0) 940).1 87 i &&& 255 = nI (g i) := fun i hi => by rw [tkn_1 (by decide), k1 87 (by decide)]; exact gm i hi
  have szm : (tkn (u1 d 0 1 0) 940).1 86 3 = nI n := by rw [tkn_size]; exact t2'
  have p21 : (u1 d 0 1 0).1 2 1 = nI (h 1) := hc_p H
  have no : f_X9_drawn x y d = some (0, u1 d 0 1 0) → f_X10_drawn x y (u1 d 0 1 0) = some (0, tkn (u1 d 0 1 0) 940) → EQR (f_X9_drawn x y) (f_X10_drawn x y) d := fun a b => ⟨0, _, _, a, b, rz_emp RR 940⟩
  rcases isIn_40 x with ⟨m, m1, m40, ex, c1, c2, I⟩ | ⟨c, I⟩
  · by_cases z1 : h 1 = 0
    · refine no ?_ (m_drawnF V MT hn t2' x y (Or.inr ⟨I, Or.inl z1⟩))
      unfold f_X9_drawn
      rw [bd_e, bd_e, if_neg c1, if_neg c2, p21, z1, if_pos (show nI 0 = (0 : Int32) from rfl)]
    · have nz : ¬ nI (h 1) = (0 : Int32) := fun q => z1 ((nI_eq (by omega) (by omega)).mp (show nI (h 1) = nI 0 from q))
      by_cases z2 : n = h 1
      · by_cases z3 : ∀ k, k < h 0 → 1 ≤ h (8 + k)
        · have ht : f_X1_hasAllTruths 2 (u1 d 0 1 0) = some (1, u1 d 0 1 0) := (hat_l V H (h 0) 0 FU (by omega) (by unfold FU; omega)).1 (fun j _ hj => z3 j hj)
          have m3 : f_X10_drawn_53 FU x y 1 0 (tkn (u1 d 0 1 0) 940) = f_X10_drawn_92 FU x y 1 0 (tkn (u1 d 0 1 0) 940) := (m53_l V MT x y (h 0) 0 FU (by omega) (by unfold FU; omega)).1 (fun j _ hj => z3 j hj)
          by_cases z4 : ∀ j, j < n → g j < 2 + 2 * h 0
          · have wt : f_X9_areWays (nI n) (u1 d 0 1 0) = some (1, u1 d 0 1 0) := (aw_l V H hn hg gc' n 0 FU (by omega) (by unfold FU; omega)).1 (fun j _ hj => z4 j hj)
            have h1p : 0 < h 1 := by omega
            have W : ∀ a, a < h 1 → g a < 2 + 2 * h 0 := fun a ha => z4 a (by omega)
            have I0 : CDI h g y (u1 d 0 1 0) 0 (u1 (u1 d 0 1 0) 12 0 0) := by
              refine ⟨fun a ha => ⟨?_, rfl⟩, ?_, fun j hj => absurd hj (Nat.not_lt_zero j)⟩
              · simp only [List.mem_cons, List.not_mem_nil, or_false] at ha
                funext j
                rw [u1_at, if_neg (by omega)]
              · rw [u1_at, if_pos ⟨rfl, rfl⟩]
                rfl
            have dl := cdi_l V H z3 h1p W (fun i hi => gc' i (by omega)) m40 m 0 FU _ (by omega) (by unfold FU; omega) I0
            obtain ⟨_, dc, ec, Ic⟩ := dl
            have kc : ∀ a, a ∉ [12, 13, 14, 15] → dc.1 a = (u1 d 0 1 0).1 a ∧ dc.2 a = (u1 d 0 1 0).2 a := Ic.1
            have t2c : dc.1 86 2 = nI n := by rw [(kc 86 (by decide)).1]; exact t2'
            have MC : HM (tkn dc 940) h := hm_keep M (by rw [tkn_1 (by decide)]; exact (kc 88 (by decide)).1) (by rw [tkn_1 (by decide)]; exact (kc 94 (by decide)).1) (by rw [tkn_1 (by decide)]; exact (kc 95 (by decide)).1)
            have gmc : ∀ i, i < n → (tkn dc 940).1 87 i &&& 255 = nI (g i) := fun i hi => by rw [tkn_1 (by decide), (kc 87 (by decide)).1, k1 87 (by decide)]; exact gm i hi
            have szc : (tkn dc 940).1 86 3 = nI n := by rw [tkn_size]; exact t2c
            have m3c : f_X10_drawn_53 FU x y 1 0 (tkn dc 940) = f_X10_drawn_92 FU x y 1 0 (tkn dc 940) := (m53_l V MC x y (h 0) 0 FU (by omega) (by unfold FU; omega)).1 (fun j _ hj => z3 j hj)
            have m4c : f_X10_drawn_92 FU x y 1 0 (tkn dc 940) = f_X10_drawn_136 x y 1 (tkn dc 940) := (m92_l V MC hn hg gmc szc x y n 0 FU (by omega) (by unfold FU; omega)).1 (fun j _ hj => z4 j hj)
            have J0 : MDI h g y (tkn dc 940) 0 (u1 (tkn dc 940) 86 37 y) := by
              refine ⟨fun a a1 a2 => ?_, rfl, fun j hj => ?_, ?_, fun j => ?_⟩
              · funext j
                rw [u1_at, if_neg (by omega)]
              · rw [u1_at, if_neg (by omega)]
              · rw [u1_at, if_pos ⟨rfl, rfl⟩]
                rfl
              · rw [u1_at, if_neg (by omega), MC.1 j]
                unfold hMd
                rw [if_neg (by omega)]
            have ml := md_l V MC z3 h1p W (fun i hi => gmc i (by omega)) m40 m 0 FU _ (by omega) (by unfold FU; omega) J0
            obtain ⟨r, dd, em, er, dm, Jm, ed⟩ := ml
            subst er
            subst ed
            refine ⟨1, dc, u1 dm 88 169 (nI m), ?_, ?_, ?_⟩
            · unfold f_X9_drawn
              rw [bd_e, bd_e, if_neg c1, if_neg c2, p21, if_neg nz, t1, if_pos (by rw [z2]), ht, ob_e]
              dsimp only
              rw [if_neg (show ¬ (1 : Int32) = 0 by decide), wt, ob_e]
              dsimp only
              rw [if_neg (show ¬ (1 : Int32) = 0 by decide), ex]
              unfold f_X9_drawTellings
              rw [bd_e]
              rw [show f_X9_drawTellings_16 FU (nI m) y (0 : Int32) (u1 (u1 d 0 1 0) 12 0 0) = _ from ec, ob_e]
            · rw [m_drawn0 V MC hn t2c x y I h1p z2, m3c, m4c]
              unfold f_X10_drawn_136
              rw [if_neg (show ¬ (1 : Int32) = 0 by decide), bd_e, ex]
              exact em
            · have kd : ∀ a, a ∉ [0, 12, 13, 14, 15, 86, 88] → (u1 dm 88 169 (nI m)).1 a = d.1 a ∧ (u1 dm 88 169 (nI m)).2 a = d.2 a := by
                intro a ha
                have sub : a ∉ [12, 13, 14, 15] := fun z => ha (by
                  simp only [List.mem_cons, List.not_mem_nil, or_false] at z ⊢
                  omega)
                simp only [List.mem_cons, List.not_mem_nil, or_false] at ha
                constructor
                · rw [← k1 a (by omega), ← (kc a sub).1, ← tkn_1 (d := dc) (x := 940) (a := a) (by omega), ← Jm.1 a (by omega) (by omega)]
                  funext j
                  rw [u1_at, if_neg (by omega)]
                · show dm.2 a = _
                  rw [Jm.2.1, tkn_2, (kc a sub).2]
                  rfl
              have kx : ∀ a, a ≠ 86 → a ≠ 88 → (u1 dm 88 169 (nI m)).1 a = dc.1 a := by
                intro a a1 a2
                rw [← tkn_1 (d := dc) (x := 940) a1, ← Jm.1 a a1 a2]
                funext j
                rw [u1_at, if_neg (by omega)]
              have k0 : ∀ j, j ≠ 1 → (u1 dm 88 169 (nI m)).1 0 j = d.1 0 j := by
                intro j hj
                rw [kx 0 (by decide) (by decide), (kc 0 (by decide)).1, u1_at, if_neg (by omega)]
              have k86 : ∀ j, 5 < j → j ≠ 37 → (u1 dm 88 169 (nI m)).1 86 j = d.1 86 j := by
                intro j hj h37
                rw [u1_at, if_neg (by omega), Jm.2.2.1 j h37, tkn_86 hj, (kc 86 (by decide)).1, k1 86 (by decide)]
              have hlo : ∀ j, j < 169 → hDd h g y m j = h j := fun j hj => hDd_lo hj
              have s1 : ∀ a, a ∈ [2, 3, 4, 5, 6, 7, 8, 9, 10, 11] → a ∉ [0, 12, 13, 14, 15, 86, 88] := by decide
              have VD : VH (hDd h g y m) := vh_D V m40 h1p W
              have HD : HC 2 (u1 dm 88 169 (nI m)) (hDd h g y m) ((u1 dm 88 169 (nI m)).2 92) := by
                rw [(kd 92 (by decide)).2]
                refine hc_told V R1.1 hlo (fun a ha => kd a (s1 a ha)) ?_ (fun i hi => ?_)
                · rw [kx 12 (by decide) (by decide), hDd_169]
                  exact Ic.2.1
                · rw [hDd_169] at hi
                  obtain ⟨a, b, c⟩ := hDd_t (h := h) (g := g) (x := y) hi
                  rw [a, b, c, kx 13 (by decide) (by decide), kx 14 (by decide) (by decide), kx 15 (by decide) (by decide)]
                  exact Ic.2.2 i hi
              have MD : HM (u1 dm 88 169 (nI m)) (hDd h g y m) := by
                refine hm_told V R1.2 hlo (fun j => ?_) (kd 94 (by decide)).1 (kd 95 (by decide)).1
                rw [u1_at]
                by_cases q : j = 169
                · rw [if_pos ⟨rfl, q⟩, q, hDd_169]
                · rw [if_neg (fun z => q z.2), Jm.2.2.2.2 j]
                  unfold hDd
                  rw [upN_ne q]
              refine rz_gen RR ⟨_, VD, HD, MD⟩ (tp_0 ?_ ?_) (fa_cong R3 (k0 2 (by decide)) (k86 16 (by decide) (by decide))) (tk_cong R5 (kd 83 (by decide)).1 (k86 35 (by decide) (by decide)) (kd 84 (by decide)).1 (kd 105 (by decide)).1 (k86 36 (by decide) (by decide)) (kd 106 (by decide)).1) (k0 6 (by decide)) (fun a ha => kd a ?_)
              · rw [kx 0 (by decide) (by decide), (kc 0 (by decide)).1, u1_at, if_pos ⟨rfl, rfl⟩]
              · rw [u1_at, if_neg (by omega), Jm.2.2.1 2 (by decide)]
                exact tkn_len _ _
              · simp only [List.mem_cons, List.not_mem_nil, or_false]
                omega
          · obtain ⟨j, hj, q⟩ := not_all z4
            have wt : f_X9_areWays (nI n) (u1 d 0 1 0) = some (0, u1 d 0 1 0) := (aw_l V H hn hg gc' n 0 FU (by omega) (by unfold FU; omega)).2 ⟨j, Nat.zero_le j, hj, q⟩
            have m4 : f_X10_drawn_92 FU x y 1 0 (tkn (u1 d 0 1 0) 940) = some (0, tkn (u1 d 0 1 0) 940) := (m92_l V MT hn hg gm' szm x y n 0 FU (by omega) (by unfold FU; omega)).2 ⟨j, Nat.zero_le j, hj, q⟩
            refine no ?_ (by rw [m_drawn0 V MT hn t2' x y I (by omega) z2, m3, m4])
            unfold f_X9_drawn
            rw [bd_e, bd_e, if_neg c1, if_neg c2, p21, if_neg nz, t1, if_pos (by rw [z2]), ht, ob_e]
            dsimp only
            rw [if_neg (show ¬ (1 : Int32) = 0 by decide), wt, ob_e]
            dsimp only
            rw [if_pos rfl]
        · obtain ⟨j, hj, q⟩ := not_all z3
          have q0 : h (8 + j) = 0 := by omega
          have ht : f_X1_hasAllTruths 2 (u1 d 0 1 0) = some (0, u1 d 0 1 0) := (hat_l V H (h 0) 0 FU (by omega) (by unfold FU; omega)).2 ⟨j, Nat.zero_le j, hj, q0⟩
          have m3 : f_X10_drawn_53 FU x y 1 0 (tkn (u1 d 0 1 0) 940) = some (0, tkn (u1 d 0 1 0) 940) := (m53_l V MT x y (h 0) 0 FU (by omega) (by unfold FU; omega)).2 ⟨j, Nat.zero_le j, hj, q0⟩
          refine no ?_ (by rw [m_drawn0 V MT hn t2' x y I (by omega) z2, m3])
          unfold f_X9_drawn
          rw [bd_e, bd_e, if_neg c1, if_neg c2, p21, if_neg nz, t1, if_pos (by rw [z2]), ht, ob_e]
          dsimp only
          rw [if_pos rfl]
      · refine no ?_ (m_drawnF V MT hn t2' x y (Or.inr ⟨I, Or.inr z2⟩))
        unfold f_X9_drawn
        rw [bd_e, bd_e, if_neg c1, if_neg c2, p21, if_neg nz, t1, if_neg (fun q => z2 ((nI_eq (by omega) (by omega)).mp q))]
  · refine no ?_ (m_drawnF V MT hn t2' x y (Or.inl I))
    unfold f_X9_drawn
    rw [bd_e, bd_e]
    rcases c with c | ⟨c1, c2⟩
    · rw [if_pos c]
    · rw [if_neg c1, if_pos c2]
