-- PURE ROWS: tell, untell
theorem rh_told {d d' : DD} {h h' : Nat → Nat} (V : VH h) (R : RH d h) (e : ∀ j, j < 169 → h' j = h j) (h40 : h' 169 ≤ 40) (hv : ∀ i, i < h' 169 → h' (170 + 3 * i) < h 1 ∧ h' (170 + 3 * i + 1) < 30 ∧ h' (170 + 3 * i + 2) < 2 ^ h 0) (k : ∀ a, a ∈ [2, 3, 4, 5, 6, 7, 8, 9, 10, 11, 92, 94, 95] → d'.1 a = d.1 a ∧ d'.2 a = d.2 a) (k88 : ∀ j, d'.1 88 j = nI (h' j)) (k12 : d'.1 12 0 = nI (h' 169)) (kt : ∀ i, i < h' 169 → d'.1 13 i = nI (h' (170 + 3 * i)) ∧ d'.1 14 i = nI (h' (170 + 3 * i + 1)) ∧ d'.1 15 i = nI (h' (170 + 3 * i + 2))) : VH h' ∧ RH d' h' := by
  obtain ⟨H, M⟩ := R
  have v0 := V.1
  have v1 := V.2.1
  have e0 := e 0 (by omega)
  have e1 := e 1 (by omega)
  constructor
  · obtain ⟨w0, w1, w2, w3, w4, w5, w6, w7, w8⟩ := V
    refine ⟨by rw [e0]; exact w0, by rw [e1]; exact w1, fun j hj => ?_, fun j hj => ?_, fun j hj => ?_, fun j hj => ?_, fun j hj => ?_, h40, fun i hi => ?_⟩
    · rw [e0] at hj
      rw [e (2 + j) (by omega), e (5 + j) (by omega), e (8 + j) (by omega)]
      exact w2 j hj
    · rw [e1] at hj
      rw [e (11 + j) (by omega), e0]
      exact w3 j hj
    · rw [e1] at hj
      rw [e (15 + j) (by omega)]
      exact w4 j hj
    · rw [e (19 + j) (by omega), e1]
      exact w5 j hj
    · rw [e (49 + j) (by omega)]
      exact w6 j hj
    · rw [e1, e0]
      exact hv i hi
  · constructor
    · unfold HC at H ⊢
      simp only [rf_2_2, rf_2_3, rf_2_4, rf_2_5, rf_2_6, rf_2_7, rf_2_8, rf_2_9, rf_2_10, rf_2_11, rf_12_1, rf_12_2, rf_12_3] at H ⊢
      obtain ⟨a0, a1, a2, a3, a4, a5, a6, a7, a8, a9, a10, a11, a12⟩ := H
      rw [(k 2 (by decide)).1, (k 3 (by decide)).2, (k 4 (by decide)).1, (k 5 (by decide)).1, (k 6 (by decide)).1, (k 7 (by decide)).2, (k 8 (by decide)).1, (k 9 (by decide)).1, (k 10 (by decide)).1, (k 11 (by decide)).1, (k 92 (by decide)).2]
      refine ⟨by rw [e0]; exact a0, by rw [e1]; exact a1, fun j hj => ?_, fun j hj => ?_, fun j hj => ?_, fun j hj => ?_, fun j hj => ?_, fun j hj => ?_, fun j hj => ?_, fun j hj => ?_, fun j hj => ?_, k12, kt⟩
      · rw [e0] at hj; exact a2 j hj
      · rw [e0] at hj; rw [e (2 + j) (by omega)]; exact a3 j hj
      · rw [e0] at hj; rw [e (5 + j) (by omega)]; exact a4 j hj
      · rw [e0] at hj; rw [e (8 + j) (by omega)]; exact a5 j hj
      · rw [e1] at hj; exact a6 j hj
      · rw [e1] at hj; rw [e (11 + j) (by omega)]; exact a7 j hj
      · rw [e1] at hj; rw [e (15 + j) (by omega)]; exact a8 j hj
      · rw [e (49 + j) (by omega)]; exact a9 j hj
      · rw [e (19 + j) (by omega)]; exact a10 j hj
    · refine ⟨k88, fun j hj => ?_, fun j t hj ht => ?_⟩
      · rw [e0] at hj
        rw [e (2 + j) (by omega), e (5 + j) (by omega), (k 95 (by decide)).1]
        exact M.2.1 j hj
      · rw [e0] at hj
        rw [e (2 + j) (by omega), e (5 + j) (by omega)] at ht
        rw [e (2 + j) (by omega), (k 94 (by decide)).1]
        exact M.2.2 j t hj ht
theorem rz_told {d d' : DD} (R : RZ d) {h' : Nat → Nat} (VR : VH h' ∧ RH d' h') (k : ∀ a, a ∈ PL → a ∉ [12, 13, 14, 15, 88] → d'.1 a = d.1 a ∧ d'.2 a = d.2 a) (k86 : ∀ j, j ≠ 0 → d'.1 86 j = d.1 86 j) : RZ d' := by
  obtain ⟨_, R2, R3, R4, R5, R6⟩ := R
  refine ⟨⟨h', VR.1, VR.2⟩, tp_cong R2 ?_ ?_ ?_ ?_, fa_cong R3 ?_ ?_, im_cong R4 ?_ ?_ ?_ ?_ ?_, tk_cong R5 ?_ ?_ ?_ ?_ ?_ ?_, rw_cong R6 ?_⟩
  · rw [(k 0 (by decide) (by decide)).1]
  · exact k86 2 (by decide)
  · exact (k 1 (by decide) (by decide)).1
  · exact (k 87 (by decide) (by decide)).1
  · rw [(k 0 (by decide) (by decide)).1]
  · exact k86 16 (by decide)
  · rw [(k 0 (by decide) (by decide)).1]
  · exact (k 109 (by decide) (by decide)).1
  · exact (k 107 (by decide) (by decide)).1
  · exact (k 108 (by decide) (by decide)).2
  · intro a h1 h2
    refine k a (pl_mid a h2) ?_
    intro z
    simp only [List.mem_cons, List.not_mem_nil, or_false] at z
    omega
  · exact (k 83 (by decide) (by decide)).1
  · exact k86 35 (by decide)
  · exact (k 84 (by decide) (by decide)).1
  · exact (k 105 (by decide) (by decide)).1
  · exact k86 36 (by decide)
  · exact (k 106 (by decide) (by decide)).1
  · exact (k 93 (by decide) (by decide)).2
theorem s_untell {d : DD} (R : RZ d) : EQR f_X9_untell f_X10_untell d := by
  have RR := R
  obtain ⟨⟨h, V, H, M⟩, R2, R3, R4, R5, R6⟩ := R
  have v2 := V.2.2.2.2.2.2.2.1
  have sz := hc_sz H
  rw [rf_2_11] at sz
  by_cases c : h 169 = 0
  · refine ⟨mI, d, u1 d 86 0 0, ?_, ?_, rl_fq RR (fq_thr d 0)⟩
    · unfold f_X9_untell
      rw [sz, c, if_neg (by decide)]
      rfl
    · have M0 := hm_fq M (fq_thr d 0)
      have r : (u1 d 86 0 0).1 88 (169 : Int32).toNatClampNeg = nI (h 169) := M0.1 169
      unfold f_X10_untell
      rw [bd_e, if_pos e169, r, c, if_pos (by decide)]
      rfl
  · have hp : 0 < h 169 := by omega
    have r : ∀ d1 : DD, d1.1 88 = d.1 88 → d1.1 88 (169 : Int32).toNatClampNeg = nI (h 169) := fun d1 q => by rw [q]; exact M.1 169
    have e12 : nI (h 169) - 1 = nI (h 169 - 1) := by rw [show (1 : Int32) = nI 1 from rfl, pk_sub (by omega)]
    refine ⟨nI (h 169 - 1), u1 d 12 0 (nI (h 169 - 1)), u1 (u1 (u1 d 12 0 (nI (h 169 - 1))) 86 0 0) 88 169 (nI (h 169 - 1)), ?_, ?_, ?_⟩
    · unfold f_X9_untell
      rw [sz, if_pos (show (0 : Int32) < nI (h 169) from (nI_ltI (a := 0) (by omega) (by omega)).mpr hp), bd_e, e12, u1_at, if_pos ⟨rfl, rfl⟩]
    · unfold f_X10_untell
      have q : (u1 (u1 d 12 0 (nI (h 169 - 1))) 86 0 0).1 88 (169 : Int32).toNatClampNeg = nI (h 169) := r _ (by funext j; rw [u1_at, if_neg (by omega), u1_at, if_neg (by omega)])
      rw [bd_e, if_pos e169, q, if_neg (show ¬ nI (h 169) = 0 from fun z => c ((nI_eq (by omega) (by omega)).mp (show nI (h 169) = nI 0 from z))), if_pos e169, if_pos e169, bd_e, if_pos e169, e12]
      show some ((u1 _ 88 169 (nI (h 169 - 1))).1 88 169, _) = _
      rw [u1_at, if_pos ⟨rfl, rfl⟩]
      rfl
    · refine rz_told RR (h' := upN h 169 (h 169 - 1)) (rh_told V ⟨H, M⟩ (fun j hj => upN_ne (by omega)) ?_ (fun i hi => ?_) (fun a ha => ?_) (fun j => ?_) ?_ (fun i hi => ?_)) (fun a ha hn => ?_) (fun j hj => ?_)
      · rw [upN_same]; omega
      · rw [upN_same] at hi
        rw [upN_ne (by omega), upN_ne (by omega), upN_ne (by omega)]
        exact V.2.2.2.2.2.2.2.2 i (by omega)
      · refine ⟨?_, rfl⟩
        simp only [List.mem_cons, List.not_mem_nil, or_false] at ha
        funext j
        rw [u1_at, if_neg (by omega), u1_at, if_neg (by omega), u1_at, if_neg (by omega)]
      · rw [u1_at]
        by_cases z : j = 169
        · rw [if_pos ⟨rfl, z⟩, z, upN_same]
        · rw [if_neg (fun q => z q.2), upN_ne z, u1_at, if_neg (by omega), u1_at, if_neg (by omega)]
          exact M.1 j
      · rw [u1_at, if_neg (by omega), u1_at, if_neg (by omega), u1_at, if_pos ⟨rfl, rfl⟩, upN_same]
      · rw [upN_same] at hi
        have t := H.2.2.2.2.2.2.2.2.2.2.2.2 i (by omega)
        simp only [rf_2_2, rf_2_3, rf_2_4, rf_2_5, rf_2_6, rf_2_7, rf_2_8, rf_2_9, rf_2_10, rf_2_11, rf_12_1, rf_12_2, rf_12_3] at t
        rw [upN_ne (by omega), upN_ne (by omega), upN_ne (by omega)]
        refine ⟨?_, ?_, ?_⟩
        · rw [u1_at, if_neg (by omega), u1_at, if_neg (by omega), u1_at, if_neg (by omega)]; exact t.1
        · rw [u1_at, if_neg (by omega), u1_at, if_neg (by omega), u1_at, if_neg (by omega)]; exact t.2.1
        · rw [u1_at, if_neg (by omega), u1_at, if_neg (by omega), u1_at, if_neg (by omega)]; exact t.2.2
      · have h86 : a ≠ 86 := fun z => by rw [z] at ha; exact absurd ha (by decide)
        simp only [List.mem_cons, List.not_mem_nil, or_false] at hn
        refine ⟨?_, rfl⟩
        funext j
        rw [u1_at, if_neg (by omega), u1_at, if_neg (by omega), u1_at, if_neg (by omega)]
      · rw [u1_at, if_neg (by omega), u1_at, if_neg (by omega), u1_at, if_neg (by omega)]
