-- PURE ROWS: fault, end, said, ended, count
theorem s_fault {d : DD} (R : RZ d) : EQR f_X9_fault f_X10_fault d := by
  obtain ⟨R1, R2, R3, R4, R5, R6⟩ := R
  refine ⟨d.1 0 2, d, u1 d 86 0 0, rfl, ?_, rl_fq ⟨R1, R2, R3, R4, R5, R6⟩ (fq_thr d 0)⟩
  unfold f_X10_fault
  rw [bd_e, u1_at, if_neg (by omega), R3]
def FU3 (d d' : DD) : Prop := (∀ a, a ∈ PL → a ≠ 0 → d'.1 a = d.1 a ∧ d'.2 a = d.2 a) ∧ d'.1 0 2 = d.1 0 2 ∧ d'.1 0 6 = d.1 0 6 ∧ ∀ j, j ≠ 0 → j ≠ 2 → d'.1 86 j = d.1 86 j
theorem s_end {d : DD} (R : RZ d) (x : Int32) : EQR (f_X9_end x) (f_X10_end x) d := by
  have RR := R
  obtain ⟨R1, ⟨n, hn, t1, t2, t3⟩, R3, R4, R5, R6⟩ := R
  have no : ∀ (c : x < 0 ∨ (¬ x < 0 ∧ nI n < x)), EQR (f_X9_end x) (f_X10_end x) d := by
    intro c
    refine ⟨0, d, u1 d 86 0 0, ?_, ?_, rl_fq RR (fq_thr d 0)⟩
    · unfold f_X9_end
      rw [t1]
      rcases c with c | ⟨c1, c2⟩
      · rw [if_pos c]
      · rw [if_neg c1, if_pos c2]
    · unfold f_X10_end
      have q : (u1 d 86 0 0).1 86 2 = nI n := by rw [u1_at, if_neg (by omega), t2]
      rw [bd_e, q]
      rcases c with c | ⟨c1, c2⟩
      · rw [if_pos c]
      · rw [if_neg c1, if_pos c2]
  by_cases c0 : x < 0
  · exact no (Or.inl c0)
  · obtain ⟨m, hm, rfl⟩ := nI_of c0
    by_cases c1 : nI n < nI m
    · exact no (Or.inr ⟨c0, c1⟩)
    · have mn : ¬ n < m := fun z => c1 ((nI_ltI (by omega) hm).mpr z)
      refine ⟨1, u1 d 0 1 (nI m), u1 (u1 (u1 d 0 1 (nI m)) 86 0 0) 86 2 (nI m), ?_, ?_, ?_⟩
      · unfold f_X9_end
        rw [t1, if_neg c0, if_neg c1, bd_e]
      · unfold f_X10_end
        have q : (u1 (u1 d 0 1 (nI m)) 86 0 0).1 86 2 = nI n := by rw [u1_at, if_neg (by omega), u1_at, if_neg (by omega), t2]
        rw [bd_e, q, if_neg c0, if_neg c1, bd_e]
      · have keep : ∀ a, a ≠ 0 → a ≠ 86 → (u1 (u1 (u1 d 0 1 (nI m)) 86 0 0) 86 2 (nI m)).1 a = d.1 a ∧ (u1 (u1 (u1 d 0 1 (nI m)) 86 0 0) 86 2 (nI m)).2 a = d.2 a := by
          intro a h0 h86
          refine ⟨?_, rfl⟩
          funext j
          rw [u1_at, if_neg (by omega), u1_at, if_neg (by omega), u1_at, if_neg (by omega)]
        obtain ⟨h, V, R1⟩ := R1
        refine ⟨⟨h, V, rh_cong R1 (fun a ha => keep a (fun z => by rw [z] at ha; exact absurd ha (by decide)) (fun z => by rw [z] at ha; exact absurd ha (by decide)))⟩, ⟨m, by omega, ?_, ?_, fun i hi => ?_⟩, fa_cong R3 ?_ ?_, im_cong R4 ?_ (keep 109 (by decide) (by decide)).1 (keep 107 (by decide) (by decide)).1 (keep 108 (by decide) (by decide)).2 (fun a h1 h2 => keep a (by omega) (by omega)), tk_cong R5 (keep 83 (by decide) (by decide)).1 ?_ (keep 84 (by decide) (by decide)).1 (keep 105 (by decide) (by decide)).1 ?_ (keep 106 (by decide) (by decide)).1, rw_cong R6 (keep 93 (by decide) (by decide)).2⟩
        · rw [u1_at, if_neg (by omega), u1_at, if_neg (by omega), u1_at, if_pos ⟨rfl, rfl⟩]
        · rw [u1_at, if_pos ⟨rfl, rfl⟩]
        · rw [(keep 1 (by decide) (by decide)).1, (keep 87 (by decide) (by decide)).1]
          exact t3 i (by omega)
        · rw [u1_at, if_neg (by omega), u1_at, if_neg (by omega), u1_at, if_neg (by omega)]
        · rw [u1_at, if_neg (by omega), u1_at, if_neg (by omega), u1_at, if_neg (by omega)]
        · rw [u1_at, if_neg (by omega), u1_at, if_neg (by omega), u1_at, if_neg (by omega)]
        · rw [u1_at, if_neg (by omega), u1_at, if_neg (by omega), u1_at, if_neg (by omega)]
        · rw [u1_at, if_neg (by omega), u1_at, if_neg (by omega), u1_at, if_neg (by omega)]
theorem s_said {d : DD} (R : RZ d) (x : Int32) : EQR (f_X9_said x) (f_X10_said x) d := by
  refine eqr_q R ?_
  obtain ⟨R1, R2, R3, R4, ⟨n, b, hn, t1, t2, t3, t4, t5, t6⟩, R6⟩ := R
  have fm : (u1 d 86 0 0).1 86 35 - 1 = pI n := by
    rw [u1_at, if_neg (by omega), t2]
    rfl
  have ei := e_X10_isIn0 (x := x) (n := n) (by omega) (u1 d 86 0 0)
  rw [show nI 0 = (0 : Int32) from rfl] at ei
  rcases ix_dec x (n := n) (by omega) with ⟨i, hi, rfl⟩ | c
  · have ci := ixt hi (by omega)
    refine ⟨d.1 84 i, d, u1 d 86 0 0, ?_, ?_, fq_thr d 0⟩
    · unfold f_X9_said
      rw [t1, if_neg (nI_pos (by omega)), if_pos ((nI_ltI (by omega) (by omega)).mpr hi), e_X9_at, ob_e, rd1_in (by rw [ln_84]; omega)]
    · have i105 : ixb (nI i) (ln 105) := (ix_nI (by omega)).mpr (by rw [ln_105]; omega)
      unfold f_X10_said
      simp only [ob_e, bd_e, ↓reduceIte, one_ne, zro_eq, bI_t0, bI_f0, decide_true, decide_false, fm, ei, eq_true ci, eq_true i105, nI_clamp (show i < 2 ^ 31 by omega)]
      rw [t3 i hi]
      rfl
  · refine ⟨mI, d, u1 d 86 0 0, ?_, ?_, fq_thr d 0⟩
    · unfold f_X9_said
      rw [t1]
      by_cases c0 : x < 0
      · rw [if_pos c0]
        rfl
      · obtain ⟨m, hm, rfl⟩ := nI_of c0
        rw [if_neg c0, if_neg (fun z => c ((ix_nI hm).mpr ((nI_ltI hm (by omega)).mp z)))]
        rfl
    · unfold f_X10_said
      simp only [ob_e, bd_e, ↓reduceIte, one_ne, zro_eq, bI_t0, bI_f0, decide_true, decide_false, fm, ei, eq_false c]
      rfl
theorem s_ended {d : DD} (R : RZ d) (x : Int32) : EQR (f_X9_ended x) (f_X10_ended x) d := by
  refine eqr_q R ?_
  obtain ⟨R1, R2, R3, R4, ⟨n, b, hn, t1, t2, t3, t4, t5, t6⟩, R6⟩ := R
  have fm : (u1 d 86 0 0).1 86 36 = bI b := by
    rw [u1_at, if_neg (by omega), t4]
  have ei := e_X10_isIn0 (x := x) (n := 2) (by omega) (u1 d 86 0 0)
  rw [show nI 0 = (0 : Int32) from rfl, show pI 2 = (1 : Int32) from rfl] at ei
  rcases ix_dec x (n := 2) (by omega) with ⟨i, hi, rfl⟩ | c
  · have ci := ixt hi (by omega)
    have i106 : ixb (nI i) (ln 106) := (ix_nI (by omega)).mpr (by rw [ln_106]; omega)
    have hi2 : i = 0 ∨ i = 1 := by omega
    cases b with
    | true =>
      obtain ⟨a1, a2⟩ := t5 rfl
      refine ⟨d.1 106 i, d, u1 d 86 0 0, ?_, ?_, fq_thr d 0⟩
      · unfold f_X9_ended
        rcases hi2 with rfl | rfl
        · rw [if_pos (show nI 0 = (0 : Int32) from rfl), a1]
        · rw [if_neg (by decide), if_pos (show nI 1 = (1 : Int32) from rfl), a2]
      · unfold f_X10_ended
        simp only [ob_e, bd_e, ↓reduceIte, one_ne, zro_eq, bI_t0, bI_f0, decide_true, decide_false, fm, ei, eq_true ci, eq_true i106, nI_clamp (show i < 2 ^ 31 by omega)]
        rfl
    | false =>
      obtain ⟨a1, a2⟩ := t6 rfl
      refine ⟨mI, d, u1 d 86 0 0, ?_, ?_, fq_thr d 0⟩
      · unfold f_X9_ended
        rcases hi2 with rfl | rfl
        · rw [if_pos (show nI 0 = (0 : Int32) from rfl), a1]
        · rw [if_neg (by decide), if_pos (show nI 1 = (1 : Int32) from rfl), a2]
      · unfold f_X10_ended
        simp only [ob_e, bd_e, ↓reduceIte, one_ne, zro_eq, bI_t0, bI_f0, decide_true, decide_false, fm]
        rfl
  · refine ⟨mI, d, u1 d 86 0 0, ?_, ?_, fq_thr d 0⟩
    · unfold f_X9_ended
      rw [if_neg (fun z => c (by rw [z]; exact ixt (j := 0) (by omega) (by omega))), if_neg (fun z => c (by rw [z]; exact ixt (j := 1) (by omega) (by omega)))]
      rfl
    · unfold f_X10_ended
      cases b with
      | true =>
        simp only [ob_e, bd_e, ↓reduceIte, one_ne, zro_eq, bI_t0, bI_f0, decide_true, decide_false, fm, ei, eq_false c]
        rfl
      | false =>
        simp only [ob_e, bd_e, ↓reduceIte, one_ne, zro_eq, bI_t0, bI_f0, decide_true, decide_false, fm]
        rfl
def tu (h : Nat → Nat) (n : Nat) : Nat := cs n (fun u => if 0 < h (19 + u) then 1 else 0)
theorem hw_l {h nm} {d : DD} (V : VH h) (H : HC 2 d h nm) : ∀ (m u f : Nat), u + m = 30 → m < f → f_X1_hoursWithTurns_4 2 f (nI (tu h u)) (nI u) d = some (nI (tu h 30), d) := by
  have v1 := V.2.1
  intro m
  induction m with
  | zero =>
    intro u f hi hf
    cases f with
    | zero => omega
    | succ f =>
      show f_X1_hoursWithTurns_4B 2 (f_X1_hoursWithTurns_4 2 f) _ _ _ = _
      unfold f_X1_hoursWithTurns_4B
      rw [if_neg (by rw [nI_lit, nI_ltI (by omega) (by omega)]; omega), show u = 30 by omega]
  | succ m ih =>
    intro u f hi hf
    cases f with
    | zero => omega
    | succ f =>
      show f_X1_hoursWithTurns_4B 2 (f_X1_hoursWithTurns_4 2 f) _ _ _ = _
      unfold f_X1_hoursWithTurns_4B
      have s := ih (u + 1) f (by omega) (by omega)
      have vu := V.2.2.2.2.2.1 u (by omega)
      have e : tu h (u + 1) = tu h u + (if 0 < h (19 + u) then 1 else 0) := rfl
      rw [e] at s
      rw [if_pos (by rw [nI_lit, nI_ltI (by omega) (by omega)]; omega), e_X9_at, ob_e, hc_tu hb_2 H (by omega)]
      dsimp only
      by_cases c : h (19 + u) = 0
      · rw [if_neg (by omega), Nat.add_zero] at s
        rw [if_pos (show pI (h (19 + u)) = -1 from (pI_mI (by omega)).mpr c), nI_1]
        exact s
      · rw [if_pos (by omega)] at s
        rw [if_neg (show ¬ pI (h (19 + u)) = -1 from fun z => c ((pI_mI (by omega)).mp z)), nI_1, nI_1]
        exact s
theorem mc_l {h : Nat → Nat} {d : DD} (V : VH h) (M : HM d h) (x : Int32) (Q : Int32 → DD → Prop) (K : OW (if x = (0 : Int32) then
    if ixb (0 : Int32) (ln 88) then
      some (d.1 88 (0 : Int32).toNatClampNeg, d)
      else none
    else if x = (1 : Int32) then
    if ixb (1 : Int32) (ln 88) then
      some (d.1 88 (1 : Int32).toNatClampNeg, d)
      else none
    else if x = (2 : Int32) then
    if ixb (169 : Int32) (ln 88) then
      some (d.1 88 (169 : Int32).toNatClampNeg, d)
      else none
    else if x = (3 : Int32) then
    some (nI (tu h 30), d)
    else if x = (4 : Int32) then
    some (d.1 86 2, d)
    else 
    some ((-1 : Int32), d)) Q) : ∀ (m u f : Nat), u + m = 30 → m < f → OW (f_X10_count_9 f x (nI (tu h u)) (nI u) d) Q := by
  have v1 := V.2.1
  intro m
  induction m with
  | zero =>
    intro u f hi hf
    cases f with
    | zero => omega
    | succ f =>
      show OW (f_X10_count_9B (f_X10_count_9 f) _ _ _ _) Q
      unfold f_X10_count_9B
      rw [if_neg (by rw [nI_lit, nI_ltI (by omega) (by omega)]; omega), show u = 30 by omega]
      exact K
  | succ m ih =>
    intro u f hi hf
    cases f with
    | zero => omega
    | succ f =>
      show OW (f_X10_count_9B (f_X10_count_9 f) _ _ _ _) Q
      unfold f_X10_count_9B
      have s := ih (u + 1) f (by omega) (by omega)
      have vu := V.2.2.2.2.2.1 u (by omega)
      have e : tu h (u + 1) = tu h u + (if 0 < h (19 + u) then 1 else 0) := rfl
      rw [e] at s
      have ix : ixb ((19 : Int32) + nI u) (ln 88) := by
        rw [show (19 : Int32) = nI 19 from rfl, nI_add]
        exact (ix_nI (by omega)).mpr (by rw [ln_88]; omega)
      have rd : d.1 88 ((19 : Int32) + nI u).toNatClampNeg = nI (h (19 + u)) := by
        rw [show (19 : Int32) = nI 19 from rfl, nI_add, nI_clamp (by omega), M.1]
      rw [if_pos (by rw [nI_lit, nI_ltI (by omega) (by omega)]; omega), if_pos ix, rd]
      by_cases c : 0 < h (19 + u)
      · rw [if_pos c] at s
        rw [if_pos (show (0 : Int32) < nI (h (19 + u)) from (nI_ltI (a := 0) (by omega) (by omega)).mpr c), bd_e, nI_1, nI_1]
        exact s
      · rw [if_neg c] at s
        rw [if_neg (show ¬ (0 : Int32) < nI (h (19 + u)) from fun z => c ((nI_ltI (a := 0) (by omega) (by omega)).mp z)), bd_e, nI_1, show (0 : Int32) = nI 0 from rfl, nI_add]
        exact s
theorem s_count {d : DD} (R : RZ d) (x : Int32) : EQR (f_X9_count x) (f_X10_count x) d := by
  refine eqr_q R ?_
  obtain ⟨⟨h, V, H, M⟩, ⟨n, hn, t1, t2, t3⟩, R3, R4, R5, R6⟩ := R
  have M0 := hm_fq M (fq_thr d 0)
  have sz := hc_sz H
  rw [rf_2_11] at sz
  have a0 : ixb (0 : Int32) (ln 88) := (ix_nI (n := 0) (by omega)).mpr (by rw [ln_88]; omega)
  have r0 : (u1 d 86 0 0).1 88 (0 : Int32).toNatClampNeg = nI (h 0) := M0.1 0
  have r1 : (u1 d 86 0 0).1 88 (1 : Int32).toNatClampNeg = nI (h 1) := M0.1 1
  have r2 : (u1 d 86 0 0).1 88 (169 : Int32).toNatClampNeg = nI (h 169) := M0.1 169
  have r4 : (u1 d 86 0 0).1 86 2 = nI n := by rw [u1_at, if_neg (by omega), t2]
  have hw : f_X1_hoursWithTurns 2 d = some (nI (tu h 30), d) := hw_l V H 30 0 FU rfl (by unfold FU; omega)
  refine eq2 (if x = (0 : Int32) then nI (h 0) else if x = (1 : Int32) then nI (h 1) else if x = (2 : Int32) then nI (h 169) else if x = (3 : Int32) then nI (tu h 30) else if x = (4 : Int32) then nI n else mI) ?_ (fun d1 F => ?_)
  · unfold f_X9_count
    rw [hw, hc_k H, hc_p H, sz, t1]
    by_cases c0 : x = 0
    · simp only [c0, if_true]
      exact ow_ret ⟨fq_refl d, rfl⟩
    · by_cases c1 : x = 1
      · simp only [c0, c1, if_true, if_false, one_ne]
        exact ow_ret ⟨fq_refl d, rfl⟩
      · by_cases c2 : x = 2
        · rw [if_neg c0, if_neg c1, if_pos c2, if_neg c0, if_neg c1, if_pos c2]
          exact ow_ret ⟨fq_refl d, rfl⟩
        · by_cases c3 : x = 3
          · rw [if_neg c0, if_neg c1, if_neg c2, if_pos c3, if_neg c0, if_neg c1, if_neg c2, if_pos c3]
            exact ow_ret ⟨fq_refl d, rfl⟩
          · by_cases c4 : x = 4
            · rw [if_neg c0, if_neg c1, if_neg c2, if_neg c3, if_pos c4, if_neg c0, if_neg c1, if_neg c2, if_neg c3, if_pos c4]
              exact ow_ret ⟨fq_refl d, rfl⟩
            · rw [if_neg c0, if_neg c1, if_neg c2, if_neg c3, if_neg c4, if_neg c0, if_neg c1, if_neg c2, if_neg c3, if_neg c4]
              exact ow_ret ⟨fq_refl d, rfl⟩
  · have M0' := hm_fq (hm_fq M F) (fq_thr d1 0)
    have q0 : (u1 d1 86 0 0).1 88 (0 : Int32).toNatClampNeg = nI (h 0) := M0'.1 0
    have q1 : (u1 d1 86 0 0).1 88 (1 : Int32).toNatClampNeg = nI (h 1) := M0'.1 1
    have q2 : (u1 d1 86 0 0).1 88 (169 : Int32).toNatClampNeg = nI (h 169) := M0'.1 169
    have q4 : (u1 d1 86 0 0).1 86 2 = nI n := by rw [u1_at, if_neg (by omega), F.2 2 (by decide), t2]
    unfold f_X10_count
    rw [bd_e]
    refine mc_l V M0' x _ ?_ 30 0 FU rfl (by unfold FU; omega)
    rw [q0, q1, q2, q4, if_pos a0, if_pos e1_88, if_pos e169]
    by_cases c0 : x = 0
    · rw [if_pos c0, if_pos c0]
      exact ow_ret ⟨fq_thr d1 0, rfl⟩
    · by_cases c1 : x = 1
      · rw [if_neg c0, if_pos c1, if_neg c0, if_pos c1]
        exact ow_ret ⟨fq_thr d1 0, rfl⟩
      · by_cases c2 : x = 2
        · rw [if_neg c0, if_neg c1, if_pos c2, if_neg c0, if_neg c1, if_pos c2]
          exact ow_ret ⟨fq_thr d1 0, rfl⟩
        · by_cases c3 : x = 3
          · rw [if_neg c0, if_neg c1, if_neg c2, if_pos c3, if_neg c0, if_neg c1, if_neg c2, if_pos c3]
            exact ow_ret ⟨fq_thr d1 0, rfl⟩
          · by_cases c4 : x = 4
            · rw [if_neg c0, if_neg c1, if_neg c2, if_neg c3, if_pos c4, if_neg c0, if_neg c1, if_neg c2, if_neg c3, if_pos c4]
              exact ow_ret ⟨fq_thr d1 0, rfl⟩
            · rw [if_neg c0, if_neg c1, if_neg c2, if_neg c3, if_neg c4, if_neg c0, if_neg c1, if_neg c2, if_neg c3, if_neg c4]
              exact ow_ret ⟨fq_thr d1 0, rfl⟩
