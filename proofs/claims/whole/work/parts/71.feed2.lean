-- PURE ROWS: feed, whole
theorem rz_tape {d d1 d2 : DD} (R : RZ d) (hC : CK d d1) (hM : MK (u1 d1 86 0 0) d2) {g : Nat → Nat} {n : Nat} (hn : n ≤ 940) (hg : ∀ i, g i < 256) (C : CT d1 g n) (M : MT d2 g n) : RZ d2 := by
  obtain ⟨⟨h, V, R1⟩, R2, R3, R4, R5, R6⟩ := R
  have k1 : ∀ a, a ≠ 0 → a ≠ 1 → a ≠ 86 → a ≠ 87 → d2.1 a = d.1 a := by
    intro a h0 h1 h2 h3
    rw [hM.1 a h2 h3, ← hC.1 a h0 h1]
    funext j
    rw [u1_at, if_neg (by omega)]
  have k2 : ∀ a, d2.2 a = d.2 a := by
    intro a
    rw [hM.2.1]
    show d1.2 a = _
    rw [hC.2.1]
  have k0 : ∀ j, j ≠ 1 → d2.1 0 j = d.1 0 j := by
    intro j hj
    rw [hM.1 0 (by decide) (by decide), u1_at, if_neg (by omega)]
    exact hC.2.2 j hj
  have k86 : ∀ j, j ≠ 0 → j ≠ 2 → d2.1 86 j = d.1 86 j := by
    intro j h0 h2
    rw [hM.2.2 j h2, u1_at, if_neg (by omega), hC.1 86 (by decide) (by decide)]
  have sub : ∀ a, a ∈ [2, 3, 4, 5, 6, 7, 8, 9, 10, 11, 12, 13, 14, 15, 88, 92, 94, 95] → a ≠ 0 ∧ a ≠ 1 ∧ a ≠ 86 ∧ a ≠ 87 := by decide
  refine ⟨⟨h, V, rh_cong R1 (fun a ha => ?_)⟩, ⟨n, hn, ?_, M.1, fun i hi => ⟨g i, hg i, ?_, M.2 i hi⟩⟩, fa_cong R3 (k0 2 (by decide)) (k86 16 (by decide) (by decide)), im_cong R4 (k0 6 (by decide)) (k1 109 (by decide) (by decide) (by decide) (by decide)) (k1 107 (by decide) (by decide) (by decide) (by decide)) (k2 108) (fun a a1 a2 => ⟨k1 a (by omega) (by omega) (by omega) (by omega), k2 a⟩), tk_cong R5 (k1 83 (by decide) (by decide) (by decide) (by decide)) (k86 35 (by decide) (by decide)) (k1 84 (by decide) (by decide) (by decide) (by decide)) (k1 105 (by decide) (by decide) (by decide) (by decide)) (k86 36 (by decide) (by decide)) (k1 106 (by decide) (by decide) (by decide) (by decide)), rw_cong R6 (k2 93)⟩
  · obtain ⟨s1, s2, s3, s4⟩ := sub a ha
    exact ⟨k1 a s1 s2 s3 s4, k2 a⟩
  · rw [hM.1 0 (by decide) (by decide), u1_at, if_neg (by omega)]
    exact C.1
  · rw [hM.1 1 (by decide) (by decide), u1_at, if_neg (by omega)]
    exact C.2 i hi
theorem s_feed {d : DD} (R : RZ d) (x1 x2 x3 x4 x5 : Int32) : EQR (f_X9_feed x1 x2 x3 x4 x5) (f_X10_feed x1 x2 x3 x4 x5) d := by
  have RR := R
  obtain ⟨R1, ⟨n, hn, t1, t2, t3⟩, R3, R4, R5, R6⟩ := R
  have eg : ∃ g : Nat → Nat, (∀ i, g i < 256) ∧ (∀ i, i < n → d.1 1 i = nI (g i)) ∧ ∀ i, i < n → d.1 87 i &&& 255 = nI (g i) := by
    refine ⟨fun i => if hi : i < n then Classical.choose (t3 i hi) else 0, fun i => ?_, fun i hi => ?_, fun i hi => ?_⟩
    · by_cases c : i < n
      · simp only [c, dite_true]
        exact (Classical.choose_spec (t3 i c)).1
      · simp only [c, dite_false]
        omega
    · simp only [hi, dite_true]
      exact (Classical.choose_spec (t3 i hi)).2.1
    · simp only [hi, dite_true]
      exact (Classical.choose_spec (t3 i hi)).2.2
  obtain ⟨g, hg, g1, g2⟩ := eg
  have C0 : CT d g n := ⟨t1, g1⟩
  by_cases c : 940 < n + 20
  · refine ⟨mI, d, u1 d 86 0 0, ?_, ?_, rl_fq RR (fq_thr d 0)⟩
    · unfold f_X9_feed
      rw [t1, show (20 : Int32) = nI 20 from rfl, nI_add, if_pos (show (940 : Int32) < nI (n + 20) from (nI_ltI (a := 940) (by omega) (by omega)).mpr c)]
      rfl
    · have q : (u1 d 86 0 0).1 86 2 = nI n := by rw [u1_at, if_neg (by omega), t2]
      unfold f_X10_feed
      rw [bd_e, q, show (20 : Int32) = nI 20 from rfl, nI_add, if_pos (show (940 : Int32) < nI (n + 20) from (nI_ltI (a := 940) (by omega) (by omega)).mpr c)]
      rfl
  · have cl : OW (f_X9_feed x1 x2 x3 x4 x5 d) (fun r d1 => r = nI (n + 20) ∧ CK d d1 ∧ CT d1 (gk x5 3 (gk x4 3 (gk x3 3 (gk x2 3 (gk x1 3 g n) (n + 4)) (n + 4 + 4)) (n + 4 + 4 + 4)) (n + 4 + 4 + 4 + 4)) (n + 20)) := by
      unfold f_X9_feed
      rw [t1, show (20 : Int32) = nI 20 from rfl, nI_add, if_neg (show ¬ (940 : Int32) < nI (n + 20) from fun z => c ((nI_ltI (a := 940) (by omega) (by omega)).mp z))]
      refine ow_call (e_addFour x1 (by omega) C0) ?_
      intro _ d1 H1
      refine ow_call (e_addFour x2 (by omega) H1.2) ?_
      intro _ d2 H2
      refine ow_call (e_addFour x3 (by omega) H2.2) ?_
      intro _ d3 H3
      refine ow_call (e_addFour x4 (by omega) H3.2) ?_
      intro _ d4 H4
      refine ow_call (e_addFour x5 (by omega) H4.2) ?_
      intro _ d5 H5
      exact ow_ret ⟨H5.2.1, ck_trans H1.1 (ck_trans H2.1 (ck_trans H3.1 (ck_trans H4.1 H5.1))), H5.2⟩
    obtain ⟨r, d1, e1, rfl, K1, C1⟩ := cl
    have M0 : MT (u1 d1 86 0 0) g n := by
      refine ⟨?_, fun i hi => ?_⟩
      · rw [u1_at, if_neg (by omega), K1.1 86 (by decide) (by decide), t2]
      · rw [u1_at, if_neg (by omega), K1.1 87 (by decide) (by decide)]
        exact g2 i hi
    have ml : OW (f_X10_feed x1 x2 x3 x4 x5 d1) (fun r d2 => r = nI (n + 20) ∧ MK (u1 d1 86 0 0) d2 ∧ MT d2 (gk x5 3 (gk x4 3 (gk x3 3 (gk x2 3 (gk x1 3 g n) (n + 4)) (n + 4 + 4)) (n + 4 + 4 + 4)) (n + 4 + 4 + 4 + 4)) (n + 20)) := by
      unfold f_X10_feed
      rw [bd_e, M0.1, show (20 : Int32) = nI 20 from rfl, nI_add, if_neg (show ¬ (940 : Int32) < nI (n + 20) from fun z => c ((nI_ltI (a := 940) (by omega) (by omega)).mp z))]
      refine ow_call (e_four x1 (by omega) M0) ?_
      intro _ d1 H1
      refine ow_call (e_four x2 (by omega) H1.2) ?_
      intro _ d2 H2
      refine ow_call (e_four x3 (by omega) H2.2) ?_
      intro _ d3 H3
      refine ow_call (e_four x4 (by omega) H3.2) ?_
      intro _ d4 H4
      refine ow_call (e_four x5 (by omega) H4.2) ?_
      intro _ d5 H5
      exact ow_ret ⟨H5.2.1, mk_trans H1.1 (mk_trans H2.1 (mk_trans H3.1 (mk_trans H4.1 H5.1))), H5.2⟩
    obtain ⟨r2, d2, e2, rfl, K2, M2⟩ := ml
    exact ⟨_, d1, d2, e1, e2, rz_tape RR K1 K2 (by omega) (gk_lt x5 3 _ _ (gk_lt x4 3 _ _ (gk_lt x3 3 _ _ (gk_lt x2 3 _ _ (gk_lt x1 3 _ _ hg))))) C1 M2⟩
