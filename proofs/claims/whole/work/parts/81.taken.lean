-- PURE ROWS: the tape is taken; any change that keeps the rest
theorem rz_gen {d d' : DD} (R : RZ d) (hh : ∃ h, VH h ∧ RH d' h) (T : TP d') (F : FA d') (K : TK d') (k6 : d'.1 0 6 = d.1 0 6) (ki : ∀ a, (16 ≤ a ∧ a ≤ 43) ∨ a = 93 ∨ a = 107 ∨ a = 108 ∨ a = 109 → d'.1 a = d.1 a ∧ d'.2 a = d.2 a) : RZ d' := by
  obtain ⟨_, _, _, R4, _, R6⟩ := R
  exact ⟨hh, T, F, im_cong R4 k6 (ki 109 (by omega)).1 (ki 107 (by omega)).1 (ki 108 (by omega)).2 (fun a h1 h2 => ki a (Or.inl ⟨h1, h2⟩)), K, rw_cong R6 (ki 93 (by omega)).2⟩
def tkn (d : DD) (x : Int32) : DD := u1 (u1 (u1 (u1 (u1 d 86 0 0) 86 3 (d.1 86 2)) 86 2 0) 86 4 0) 86 5 x
theorem e_X10_taken (x : Int32) (d : DD) : f_X10_taken x (u1 d 86 0 0) = some ((), tkn d x) := by
  unfold f_X10_taken tkn
  rw [bd_e, bd_e, bd_e, bd_e, show (u1 d 86 0 0).1 86 2 = d.1 86 2 from by rw [u1_at, if_neg (by omega)]]
theorem tkn_2 (d : DD) (x : Int32) : (tkn d x).2 = d.2 := rfl
theorem tkn_1 {d : DD} {x : Int32} {a : Nat} (h : a ≠ 86) : (tkn d x).1 a = d.1 a := by
  funext j
  unfold tkn
  rw [u1_at, if_neg (by omega), u1_at, if_neg (by omega), u1_at, if_neg (by omega), u1_at, if_neg (by omega), u1_at, if_neg (by omega)]
theorem tkn_86 {d : DD} {x : Int32} {j : Nat} (h : 5 < j) : (tkn d x).1 86 j = d.1 86 j := by
  unfold tkn
  rw [u1_at, if_neg (by omega), u1_at, if_neg (by omega), u1_at, if_neg (by omega), u1_at, if_neg (by omega), u1_at, if_neg (by omega)]
theorem tkn_len (d : DD) (x : Int32) : (tkn d x).1 86 2 = 0 := by
  unfold tkn
  rw [u1_at, if_neg (by omega), u1_at, if_neg (by omega), u1_at, if_pos ⟨rfl, rfl⟩]
theorem tkn_size (d : DD) (x : Int32) : (tkn d x).1 86 3 = d.1 86 2 := by
  unfold tkn
  rw [u1_at, if_neg (by omega), u1_at, if_neg (by omega), u1_at, if_neg (by omega), u1_at, if_pos ⟨rfl, rfl⟩]
theorem tkn_p (d : DD) (x : Int32) : (tkn d x).1 86 4 = 0 := by
  unfold tkn
  rw [u1_at, if_neg (by omega), u1_at, if_pos ⟨rfl, rfl⟩]
theorem tkn_lim (d : DD) (x : Int32) : (tkn d x).1 86 5 = x := by
  unfold tkn
  rw [u1_at, if_pos ⟨rfl, rfl⟩]
theorem tp_0 {d : DD} (h1 : d.1 0 1 = 0) (h2 : d.1 86 2 = 0) : TP d := ⟨0, by omega, h1, h2, fun i hi => absurd hi (Nat.not_lt_zero i)⟩
-- the tape is emptied, nothing else
theorem rz_emp {d : DD} (R : RZ d) (x : Int32) : RZ (tkn (u1 d 0 1 0) x) := by
  have k1 : ∀ a, a ≠ 0 → a ≠ 86 → (tkn (u1 d 0 1 0) x).1 a = d.1 a := by
    intro a h0 h86
    rw [tkn_1 h86]
    funext j
    rw [u1_at, if_neg (by omega)]
  have k0 : ∀ j, j ≠ 1 → (tkn (u1 d 0 1 0) x).1 0 j = d.1 0 j := by
    intro j hj
    rw [tkn_1 (by decide), u1_at, if_neg (by omega)]
  have k86 : ∀ j, 5 < j → (tkn (u1 d 0 1 0) x).1 86 j = d.1 86 j := by
    intro j hj
    rw [tkn_86 hj, u1_at, if_neg (by omega)]
  have RR := R
  obtain ⟨⟨h, V, R1⟩, R2, R3, R4, R5, R6⟩ := R
  refine rz_gen RR ⟨h, V, rh_cong R1 (fun a ha => ⟨k1 a (fun z => by rw [z] at ha; exact absurd ha (by decide)) (fun z => by rw [z] at ha; exact absurd ha (by decide)), rfl⟩)⟩ (tp_0 ?_ (tkn_len _ _)) (fa_cong R3 (k0 2 (by decide)) (k86 16 (by decide))) (tk_cong R5 (k1 83 (by decide) (by decide)) (k86 35 (by decide)) (k1 84 (by decide) (by decide)) (k1 105 (by decide) (by decide)) (k86 36 (by decide)) (k1 106 (by decide) (by decide))) (k0 6 (by decide)) (fun a ha => ⟨k1 a (by omega) (by omega), rfl⟩)
  rw [tkn_1 (by decide), u1_at, if_pos ⟨rfl, rfl⟩]
-- tellings changed
theorem vh_told {h h' : Nat → Nat} (V : VH h) (e : ∀ j, j < 169 → h' j = h j) (h40 : h' 169 ≤ 40) (hv : ∀ i, i < h' 169 → h' (170 + 3 * i) < h 1 ∧ h' (170 + 3 * i + 1) < 30 ∧ h' (170 + 3 * i + 2) < 2 ^ h 0) : VH h' := by
  have v0 := V.1
  have v1 := V.2.1
  have e0 := e 0 (by omega)
  have e1 := e 1 (by omega)
  obtain ⟨w0, w1, w2, w3, w4, w5, w6, w7, w8⟩ := V
  refine ⟨by rw [e0]; exact w0, by rw [e1]; exact w1, fun j hj => ?_, fun j hj => ?_, fun j hj => ?_, fun j hj => ?_, fun j hj => ?_, h40, fun i hi => ?_⟩
  · rw [e0] at hj
    rw [e (2 + j) (by omega), e (5 + j) (by omega), e (8 + j) (by omega)]
    exact w2 j hj
  · rw [e1] at hj
    rw [e (11 + j) (by omega), e0]
    exact w3 j hj
  · rw [e1] at hj
    rw [e (15 + j) (by omega)]
    exact w4 j hj
  · rw [e (19 + j) (by omega), e1]
    exact w5 j hj
  · rw [e (49 + j) (by omega)]
    exact w6 j hj
  · rw [e1, e0]
    exact hv i hi
theorem hc_told {d d' : DD} {h h' : Nat → Nat} {nm : Nat → Int64} (V : VH h) (H : HC 2 d h nm) (e : ∀ j, j < 169 → h' j = h j) (k : ∀ a, a ∈ [2, 3, 4, 5, 6, 7, 8, 9, 10, 11] → d'.1 a = d.1 a ∧ d'.2 a = d.2 a) (k12 : d'.1 12 0 = nI (h' 169)) (kt : ∀ i, i < h' 169 → d'.1 13 i = nI (h' (170 + 3 * i)) ∧ d'.1 14 i = nI (h' (170 + 3 * i + 1)) ∧ d'.1 15 i = nI (h' (170 + 3 * i + 2))) : HC 2 d' h' nm := by
  have v0 := V.1
  have v1 := V.2.1
  have e0 := e 0 (by omega)
  have e1 := e 1 (by omega)
  unfold HC at H ⊢
  simp only [rf_2_2, rf_2_3, rf_2_4, rf_2_5, rf_2_6, rf_2_7, rf_2_8, rf_2_9, rf_2_10, rf_2_11, rf_12_1, rf_12_2, rf_12_3] at H ⊢
  obtain ⟨a0, a1, a2, a3, a4, a5, a6, a7, a8, a9, a10, a11, a12⟩ := H
  rw [(k 2 (by decide)).1, (k 3 (by decide)).2, (k 4 (by decide)).1, (k 5 (by decide)).1, (k 6 (by decide)).1, (k 7 (by decide)).2, (k 8 (by decide)).1, (k 9 (by decide)).1, (k 10 (by decide)).1, (k 11 (by decide)).1]
  refine ⟨by rw [e0]; exact a0, by rw [e1]; exact a1, fun j hj => ?_, fun j hj => ?_, fun j hj => ?_, fun j hj => ?_, fun j hj => ?_, fun j hj => ?_, fun j hj => ?_, fun j hj => ?_, fun j hj => ?_, k12, kt⟩
  · rw [e0] at hj; exact a2 j hj
  · rw [e0] at hj; rw [e (2 + j) (by omega)]; exact a3 j hj
  · rw [e0] at hj; rw [e (5 + j) (by omega)]; exact a4 j hj
  · rw [e0] at hj; rw [e (8 + j) (by omega)]; exact a5 j hj
  · rw [e1] at hj; exact a6 j hj
  · rw [e1] at hj; rw [e (11 + j) (by omega)]; exact a7 j hj
  · rw [e1] at hj; rw [e (15 + j) (by omega)]; exact a8 j hj
  · rw [e (49 + j) (by omega)]; exact a9 j hj
  · rw [e (19 + j) (by omega)]; exact a10 j hj
theorem hm_told {d d' : DD} {h h' : Nat → Nat} (V : VH h) (M : HM d h) (e : ∀ j, j < 169 → h' j = h j) (k88 : ∀ j, d'.1 88 j = nI (h' j)) (k94 : d'.1 94 = d.1 94) (k95 : d'.1 95 = d.1 95) : HM d' h' := by
  have v0 := V.1
  have e0 := e 0 (by omega)
  refine ⟨k88, fun j hj => ?_, fun j t hj ht => ?_⟩
  · rw [e0] at hj
    rw [e (2 + j) (by omega), e (5 + j) (by omega), k95]
    exact M.2.1 j hj
  · rw [e0] at hj
    rw [e (2 + j) (by omega), e (5 + j) (by omega)] at ht
    rw [e (2 + j) (by omega), k94]
    exact M.2.2 j t hj ht
