-- PURE ROWS: trade, whole
def sw (h : Nat → Nat) (i j : Nat) : Nat → Nat := fun k => if k = 19 + j then h (19 + i) else if k = 19 + i then h (19 + j) else h k
def trn : Nat → (Nat → Nat) → Nat × (Nat → Nat)
  | 0, h => (0, h)
  | m + 1, h => match fpi h 30 0 with
    | some p => ((trn m (sw h p.1 p.2)).1 + 1, (trn m (sw h p.1 p.2)).2)
    | none => (0, h)
theorem sw_out {h : Nat → Nat} {i j k : Nat} (hk : k ≠ 19 + i) (hk2 : k ≠ 19 + j) : sw h i j k = h k := by
  unfold sw
  rw [if_neg hk2, if_neg hk]
theorem sw_v {h : Nat → Nat} (V : VH h) {i j : Nat} (hi : i < 30) (hj : j < 30) : VH (sw h i j) := by
  obtain ⟨w0, w1, w2, w3, w4, w5, w6, w7, w8⟩ := V
  have s : ∀ k, (k < 19 ∨ 48 < k) → sw h i j k = h k := fun k hk => sw_out (by omega) (by omega)
  refine ⟨by rw [s 0 (by omega)]; exact w0, by rw [s 1 (by omega)]; exact w1, fun k hk => ?_, fun k hk => ?_, fun k hk => ?_, fun u hu => ?_, fun k hk => ?_, by rw [s 169 (by omega)]; exact w7, fun k hk => ?_⟩
  · rw [s 0 (by omega)] at hk
    rw [s (2 + k) (by omega), s (5 + k) (by omega), s (8 + k) (by omega)]
    exact w2 k hk
  · rw [s 1 (by omega)] at hk
    rw [s (11 + k) (by omega), s 0 (by omega)]
    exact w3 k hk
  · rw [s 1 (by omega)] at hk
    rw [s (15 + k) (by omega)]
    exact w4 k hk
  · rw [s 1 (by omega)]
    unfold sw
    split
    · exact w5 i hi
    · split
      · exact w5 j hj
      · exact w5 u hu
  · rw [s (49 + k) (by omega)]
    exact w6 k hk
  · rw [s 169 (by omega)] at hk
    rw [s (170 + 3 * k) (by omega), s (170 + 3 * k + 1) (by omega), s (170 + 3 * k + 2) (by omega), s 0 (by omega), s 1 (by omega)]
    exact w8 k hk
theorem sw_c {h nm} {d : DD} (V : VH h) (H : HC 2 d h nm) {i j : Nat} (hi : i < 30) (hj : j < 30) : HC 2 (cS h d i j) (sw h i j) nm := by
  have v0 := V.1
  have v1 := V.2.1
  have s : ∀ k, (k < 19 ∨ 48 < k) → sw h i j k = h k := fun k hk => sw_out (by omega) (by omega)
  have k1 : ∀ a, a ≠ 11 → (cS h d i j).1 a = d.1 a := fun a ha => by
    funext k
    unfold cS
    rw [u1_at, if_neg (by omega), u1_at, if_neg (by omega)]
  have k2 : (cS h d i j).2 = d.2 := rfl
  unfold HC at H ⊢
  simp only [rf_2_2, rf_2_3, rf_2_4, rf_2_5, rf_2_6, rf_2_7, rf_2_8, rf_2_9, rf_2_10, rf_2_11, rf_12_1, rf_12_2, rf_12_3] at H ⊢
  rw [k2, k1 2 (by decide), k1 4 (by decide), k1 5 (by decide), k1 6 (by decide), k1 8 (by decide), k1 9 (by decide), k1 10 (by decide), k1 12 (by decide), k1 13 (by decide), k1 14 (by decide), k1 15 (by decide), s 0 (by omega), s 1 (by omega), s 169 (by omega)]
  obtain ⟨a0, a1, a2, a3, a4, a5, a6, a7, a8, a9, a10, a11, a12⟩ := H
  refine ⟨a0, a1, a2, fun k hk => ?_, fun k hk => ?_, fun k hk => ?_, a6, fun k hk => ?_, fun k hk => ?_, fun k hk => ?_, fun u hu => ?_, a11, fun k hk => ?_⟩
  · rw [s (2 + k) (by omega)]; exact a3 k hk
  · rw [s (5 + k) (by omega)]; exact a4 k hk
  · rw [s (8 + k) (by omega)]; exact a5 k hk
  · rw [s (11 + k) (by omega)]; exact a7 k hk
  · rw [s (15 + k) (by omega)]; exact a8 k hk
  · rw [s (49 + k) (by omega)]; exact a9 k hk
  · unfold cS sw
    rw [u1_at, u1_at]
    by_cases c : u = j
    · rw [if_pos (show (11 : Nat) = 11 ∧ u = j from ⟨rfl, c⟩), if_pos (show 19 + u = 19 + j by omega)]
    · rw [if_neg (show ¬ ((11 : Nat) = 11 ∧ u = j) from fun z => c z.2), if_neg (show ¬ 19 + u = 19 + j by omega)]
      by_cases c2 : u = i
      · rw [if_pos (show (11 : Nat) = 11 ∧ u = i from ⟨rfl, c2⟩), if_pos (show 19 + u = 19 + i by omega)]
      · rw [if_neg (show ¬ ((11 : Nat) = 11 ∧ u = i) from fun z => c2 z.2), if_neg (show ¬ 19 + u = 19 + i by omega)]
        exact a10 u hu
  · rw [s (170 + 3 * k) (by omega), s (170 + 3 * k + 1) (by omega), s (170 + 3 * k + 2) (by omega)]
    exact a12 k hk
theorem sw_m {h : Nat → Nat} {d : DD} (V : VH h) (M : HM d h) {i j : Nat} (hi : i < 30) (hj : j < 30) : HM (mS h d i j) (sw h i j) := by
  have v0 := V.1
  have s : ∀ k, (k < 19 ∨ 48 < k) → sw h i j k = h k := fun k hk => sw_out (by omega) (by omega)
  have k1 : ∀ a, a ≠ 88 → (mS h d i j).1 a = d.1 a := fun a ha => by
    funext k
    unfold mS
    rw [u1_at, if_neg (by omega), u1_at, if_neg (by omega)]
  refine ⟨fun k => ?_, fun k hk => ?_, fun k t hk ht => ?_⟩
  · unfold mS sw
    rw [u1_at, u1_at]
    by_cases c : k = 19 + j
    · rw [if_pos ⟨rfl, c⟩, if_pos c]
    · rw [if_neg (fun z => c z.2), if_neg c]
      by_cases c2 : k = 19 + i
      · rw [if_pos ⟨rfl, c2⟩, if_pos c2]
      · rw [if_neg (fun z => c2 z.2), if_neg c2]
        exact M.1 k
  · rw [s 0 (by omega)] at hk
    rw [k1 95 (by decide), s (2 + k) (by omega), s (5 + k) (by omega)]
    exact M.2.1 k hk
  · rw [s 0 (by omega)] at hk
    rw [s (2 + k) (by omega), s (5 + k) (by omega)] at ht
    rw [k1 94 (by decide), s (2 + k) (by omega)]
    exact M.2.2 k t hk ht
theorem trn_v : ∀ (m : Nat) (h : Nat → Nat), VH h → VH (trn m h).2
  | 0, _, V => V
  | m + 1, h, V => by
    unfold trn
    cases q : fpi h 30 0 with
    | none => exact V
    | some p =>
      have l := fpi_lt (by omega) q
      exact trn_v m _ (sw_v V (by omega) l.2)
theorem ct4 {nm} {d0 : DD} : ∀ (m v f : Nat) (h : Nat → Nat) (d : DD), v + m = 100 → m < f → VH h → HC 2 d h nm → FR [11] d0 d → OW (f_X9_trade_4 f (nI v) (nI v) d) (fun r d' => FR [11] d0 d' ∧ HC 2 d' (trn m h).2 nm ∧ r = nI (v + (trn m h).1)) := by
  intro m
  induction m with
  | zero =>
    intro v f h d hv hf V H F
    cases f with
    | zero => omega
    | succ f =>
      show OW (f_X9_trade_4B (f_X9_trade_4 f) _ _ _) _
      unfold f_X9_trade_4B
      rw [if_neg (by rw [nI_lit, nI_ltI (by omega) (by omega)]; omega)]
      exact ow_ret ⟨F, H, rfl⟩
  | succ m ih =>
    intro v f h d hv hf V H F
    cases f with
    | zero => omega
    | succ f =>
      show OW (f_X9_trade_4B (f_X9_trade_4 f) _ _ _) _
      unfold f_X9_trade_4B
      have e : f_X1_tradeOnce 2 d = (match fpi h 30 0 with
        | some p => some (1, cS h d p.1 p.2)
        | none => some (0, d)) := ct2 V H 30 0 FU rfl (by unfold FU; omega)
      have te : trn (m + 1) h = (match fpi h 30 0 with
        | some p => ((trn m (sw h p.1 p.2)).1 + 1, (trn m (sw h p.1 p.2)).2)
        | none => (0, h)) := rfl
      rw [if_pos (by rw [nI_lit, nI_ltI (by omega) (by omega)]; omega), e, te]
      cases q : fpi h 30 0 with
      | none => exact ow_ret ⟨F, H, rfl⟩
      | some p =>
        have l := fpi_lt (by omega) q
        have F' : FR [11] d (cS h d p.1 p.2) := fr_u1 (fr_u1 (fr_refl _ _) (by decide)) (by decide)
        show OW (if (1 : Int32) = 0 then some (nI v, cS h d p.1 p.2) else f_X9_trade_4 f (nI v + 1) (nI v + 1) (cS h d p.1 p.2)) _
        rw [if_neg (by decide), nI_1]
        refine ow_mono (ih (v + 1) f (sw h p.1 p.2) _ (by omega) (by omega) (sw_v V (by omega) l.2) (sw_c V H (by omega) l.2) (fr_trans F F')) ?_
        intro r d' H'
        refine ⟨H'.1, H'.2.1, ?_⟩
        rw [H'.2.2]
        show nI (v + 1 + _) = nI (v + (_ + 1))
        rw [Nat.add_assoc, Nat.add_comm 1]
theorem mt7 {d0 : DD} : ∀ (m v f : Nat) (h : Nat → Nat) (d : DD), v + m = 100 → m < f → VH h → HM d h → FR [88] d0 d → OW (f_X10_trade_7 f (nI v) d) (fun r d' => FR [88] d0 d' ∧ HM d' (trn m h).2 ∧ r = nI (v + (trn m h).1)) := by
  intro m
  induction m with
  | zero =>
    intro v f h d hv hf V H F
    cases f with
    | zero => omega
    | succ f =>
      show OW (f_X10_trade_7B (f_X10_trade_7 f) _ _) _
      unfold f_X10_trade_7B
      rw [if_neg (by rw [nI_lit, nI_ltI (by omega) (by omega)]; omega)]
      exact ow_ret ⟨F, H, rfl⟩
  | succ m ih =>
    intro v f h d hv hf V H F
    cases f with
    | zero => omega
    | succ f =>
      show OW (f_X10_trade_7B (f_X10_trade_7 f) _ _) _
      unfold f_X10_trade_7B
      have e : f_X10_trades d = (match fpi h 30 0 with
        | some p => some (1, mS h d p.1 p.2)
        | none => some (0, d)) := mt2 V H 30 0 FU rfl (by unfold FU; omega)
      have te : trn (m + 1) h = (match fpi h 30 0 with
        | some p => ((trn m (sw h p.1 p.2)).1 + 1, (trn m (sw h p.1 p.2)).2)
        | none => (0, h)) := rfl
      rw [if_pos (by rw [nI_lit, nI_ltI (by omega) (by omega)]; omega), e, te]
      cases q : fpi h 30 0 with
      | none => exact ow_ret ⟨F, H, rfl⟩
      | some p =>
        have l := fpi_lt (by omega) q
        have F' : FR [88] d (mS h d p.1 p.2) := fr_u1 (fr_u1 (fr_refl _ _) (by decide)) (by decide)
        show OW (if (1 : Int32) = 0 then some (nI v, mS h d p.1 p.2) else f_X10_trade_7 f (nI v + 1) (mS h d p.1 p.2)) _
        rw [if_neg (by decide), nI_1]
        refine ow_mono (ih (v + 1) f (sw h p.1 p.2) _ (by omega) (by omega) (sw_v V (by omega) l.2) (sw_m V H (by omega) l.2) (fr_trans F F')) ?_
        intro r d' H'
        refine ⟨H'.1, H'.2.1, ?_⟩
        rw [H'.2.2]
        show nI (v + 1 + _) = nI (v + (_ + 1))
        rw [Nat.add_assoc, Nat.add_comm 1]
theorem s_trade {d : DD} (R : RZ d) : EQR f_X9_trade f_X10_trade d := by
  obtain ⟨⟨h, V, H, M⟩, R2, R3, R4, R5, R6⟩ := R
  obtain ⟨r, d1, e1, F1, H1, rfl⟩ := ct4 (d0 := d) 100 0 FU h d rfl (by unfold FU; omega) V H (fr_refl _ _)
  have F0 : FR [11, 86] d (u1 d1 86 0 0) := fr_u1 (fr_mono F1 (by decide)) (by decide)
  have M1 : HM (u1 d1 86 0 0) h := hm_fr M F0 (by decide) (by decide) (by decide)
  obtain ⟨r2, d2, e2, F2, M2, rfl⟩ := mt7 (d0 := u1 d1 86 0 0) 100 0 FU h (u1 d1 86 0 0) rfl (by unfold FU; omega) V M1 (fr_refl _ _)
  have F3 : FR [88, 86] d1 d2 := fr_trans (fr_u1 (fr_refl _ _) (by decide)) (fr_mono F2 (by decide))
  have FF : FR [11, 86, 88] d d2 := fr_trans (fr_mono F0 (by decide)) (fr_mono F2 (by decide))
  have k86 : ∀ j, j ≠ 0 → d2.1 86 j = d.1 86 j := fun j hj => by
    rw [(F2 86 (by decide)).1, u1_at, if_neg (fun z => hj z.2), (F1 86 (by decide)).1]
  refine ⟨_, d1, d2, e1, ?_, ⟨(trn 100 h).2, trn_v 100 h V, ?_, M2⟩, tp_cong R2 ?_ ?_ ?_ ?_, fa_cong R3 ?_ ?_, im_cong R4 ?_ ?_ ?_ ?_ ?_, tk_cong R5 ?_ ?_ ?_ ?_ ?_ ?_, rw_cong R6 ?_⟩
  · unfold f_X10_trade
    rw [bd_e]
    exact e2
  · rw [(FF 92 (by decide)).2]
    exact hc_fr H1 F3 (by decide)
  · rw [(FF 0 (by decide)).1]
  · exact k86 2 (by decide)
  · exact (FF 1 (by decide)).1
  · exact (FF 87 (by decide)).1
  · rw [(FF 0 (by decide)).1]
  · exact k86 16 (by decide)
  · rw [(FF 0 (by decide)).1]
  · exact (FF 109 (by decide)).1
  · exact (FF 107 (by decide)).1
  · exact (FF 108 (by decide)).2
  · intro a h1 h2
    refine FF a ?_
    simp only [List.mem_cons, List.not_mem_nil, or_false]
    omega
  · exact (FF 83 (by decide)).1
  · exact k86 35 (by decide)
  · exact (FF 84 (by decide)).1
  · exact (FF 105 (by decide)).1
  · exact k86 36 (by decide)
  · exact (FF 106 (by decide)).1
  · exact (FF 93 (by decide)).2
