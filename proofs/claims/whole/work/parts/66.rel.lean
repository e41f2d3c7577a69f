-- PURE ROWS: the whole state: class and model agree
def RH (d : DD) (h : Nat → Nat) : Prop := HC 2 d h (d.2 92) ∧ HM d h
def TP (d : DD) : Prop := ∃ n, n ≤ 940 ∧ d.1 0 1 = nI n ∧ d.1 86 2 = nI n ∧ ∀ i, i < n → ∃ t, t < 256 ∧ d.1 1 i = nI t ∧ d.1 87 i &&& 255 = nI t
def FA (d : DD) : Prop := d.1 0 2 = d.1 86 16
def IM (d : DD) : Prop := ∃ s, s < 4 ∧ d.1 0 6 = nI s ∧ ∀ k, k < 2 → d.1 109 k = bI (s.testBit k) ∧ (s.testBit k = true → ∃ hk, VH hk ∧ HC (16 + 14 * k) d hk (fun j => d.2 108 (7 * k + j)) ∧ ∀ j, j < 290 → d.1 107 (290 * k + j) = nI (hk j))
def TK (d : DD) : Prop := ∃ n b, n ≤ 148 ∧ d.1 83 0 = nI n ∧ d.1 86 35 = nI n ∧ (∀ i, i < n → d.1 84 i = d.1 105 i) ∧ d.1 86 36 = bI b ∧ (b = true → d.1 83 1 = d.1 106 0 ∧ d.1 83 2 = d.1 106 1) ∧ (b = false → d.1 83 1 = mI ∧ d.1 83 2 = mI)
def RW (d : DD) : Prop := d.2 93 0 = lN 0x6b696e64 ∧ d.2 93 1 = lN 0x6279 ∧ d.2 93 2 = lN 0x706572736f6e ∧ d.2 93 3 = lN 0x74727565 ∧ d.2 93 4 = lN 0x6c617465 ∧ d.2 93 5 = lN 0x6869646573 ∧ d.2 93 6 = lN 0x61646473 ∧ d.2 93 7 = lN 0x6c6f6f6b73 ∧ d.2 93 8 = lN 0x7475726e ∧ d.2 93 9 = lN 0x77616e7473
def RZ (d : DD) : Prop := (∃ h, VH h ∧ RH d h) ∧ TP d ∧ FA d ∧ IM d ∧ TK d ∧ RW d
theorem hc_cong {b : Nat} {d d' : DD} {h : Nat → Nat} {nm : Nat → Int64} (H : HC b d h nm) (e0 : d'.1 b = d.1 b) (e2 : d'.2 (rf b 2) = d.2 (rf b 2)) (e3 : d'.1 (rf b 3) = d.1 (rf b 3)) (e4 : d'.1 (rf b 4) = d.1 (rf b 4)) (e5 : d'.1 (rf b 5) = d.1 (rf b 5)) (e6 : d'.2 (rf b 6) = d.2 (rf b 6)) (e7 : d'.1 (rf b 7) = d.1 (rf b 7)) (e8 : d'.1 (rf b 8) = d.1 (rf b 8)) (e9 : d'.1 (rf b 9) = d.1 (rf b 9)) (e10 : d'.1 (rf b 10) = d.1 (rf b 10)) (e11 : d'.1 (rf b 11) = d.1 (rf b 11)) (f1 : d'.1 (rf (rf b 11) 1) = d.1 (rf (rf b 11) 1)) (f2 : d'.1 (rf (rf b 11) 2) = d.1 (rf (rf b 11) 2)) (f3 : d'.1 (rf (rf b 11) 3) = d.1 (rf (rf b 11) 3)) : HC b d' h nm := by
  unfold HC at H ⊢
  rw [e0, e2, e3, e4, e5, e6, e7, e8, e9, e10, e11, f1, f2, f3]
  exact H
theorem rh_cong {d d' : DD} {h : Nat → Nat} (R : RH d h) (e : ∀ a, a ∈ [2, 3, 4, 5, 6, 7, 8, 9, 10, 11, 12, 13, 14, 15, 88, 92, 94, 95] → d'.1 a = d.1 a ∧ d'.2 a = d.2 a) : RH d' h := by
  obtain ⟨H, M⟩ := R
  refine ⟨?_, ?_, ?_, ?_⟩
  · rw [(e 92 (by decide)).2]
    exact hc_cong H (e 2 (by decide)).1 (by rw [rf_2_2]; exact (e 3 (by decide)).2) (by rw [rf_2_3]; exact (e 4 (by decide)).1) (by rw [rf_2_4]; exact (e 5 (by decide)).1) (by rw [rf_2_5]; exact (e 6 (by decide)).1) (by rw [rf_2_6]; exact (e 7 (by decide)).2) (by rw [rf_2_7]; exact (e 8 (by decide)).1) (by rw [rf_2_8]; exact (e 9 (by decide)).1) (by rw [rf_2_9]; exact (e 10 (by decide)).1) (by rw [rf_2_10]; exact (e 11 (by decide)).1) (by rw [rf_2_11]; exact (e 12 (by decide)).1) (by rw [rf_2_11, rf_12_1]; exact (e 13 (by decide)).1) (by rw [rf_2_11, rf_12_2]; exact (e 14 (by decide)).1) (by rw [rf_2_11, rf_12_3]; exact (e 15 (by decide)).1)
  · rw [(e 88 (by decide)).1]; exact M.1
  · rw [(e 95 (by decide)).1]; exact M.2.1
  · rw [(e 94 (by decide)).1]; exact M.2.2
theorem tp_cong {d d' : DD} (T : TP d) (e1 : d'.1 0 1 = d.1 0 1) (e2 : d'.1 86 2 = d.1 86 2) (e3 : d'.1 1 = d.1 1) (e4 : d'.1 87 = d.1 87) : TP d' := by
  unfold TP at T ⊢
  rw [e1, e2, e3, e4]
  exact T
theorem fa_cong {d d' : DD} (T : FA d) (e1 : d'.1 0 2 = d.1 0 2) (e2 : d'.1 86 16 = d.1 86 16) : FA d' := by
  unfold FA at T ⊢
  rw [e1, e2]
  exact T
theorem im_hc {k : Nat} (hk : k < 2) {d d' : DD} {h : Nat → Nat} {nm : Nat → Int64} (H : HC (16 + 14 * k) d h nm) (e : ∀ a, 16 ≤ a → a ≤ 43 → d'.1 a = d.1 a ∧ d'.2 a = d.2 a) : HC (16 + 14 * k) d' h nm := by
  have r : ∀ k, k < 2 → 16 ≤ rf (16 + 14 * k) 2 ∧ rf (16 + 14 * k) 2 ≤ 43 ∧ 16 ≤ rf (16 + 14 * k) 3 ∧ rf (16 + 14 * k) 3 ≤ 43 ∧ 16 ≤ rf (16 + 14 * k) 4 ∧ rf (16 + 14 * k) 4 ≤ 43 ∧ 16 ≤ rf (16 + 14 * k) 5 ∧ rf (16 + 14 * k) 5 ≤ 43 ∧ 16 ≤ rf (16 + 14 * k) 6 ∧ rf (16 + 14 * k) 6 ≤ 43 ∧ 16 ≤ rf (16 + 14 * k) 7 ∧ rf (16 + 14 * k) 7 ≤ 43 ∧ 16 ≤ rf (16 + 14 * k) 8 ∧ rf (16 + 14 * k) 8 ≤ 43 ∧ 16 ≤ rf (16 + 14 * k) 9 ∧ rf (16 + 14 * k) 9 ≤ 43 ∧ 16 ≤ rf (16 + 14 * k) 10 ∧ rf (16 + 14 * k) 10 ≤ 43 ∧ 16 ≤ rf (16 + 14 * k) 11 ∧ rf (16 + 14 * k) 11 ≤ 43 ∧ 16 ≤ rf (rf (16 + 14 * k) 11) 1 ∧ rf (rf (16 + 14 * k) 11) 1 ≤ 43 ∧ 16 ≤ rf (rf (16 + 14 * k) 11) 2 ∧ rf (rf (16 + 14 * k) 11) 2 ≤ 43 ∧ 16 ≤ rf (rf (16 + 14 * k) 11) 3 ∧ rf (rf (16 + 14 * k) 11) 3 ≤ 43 := by decide +kernel
  obtain ⟨a2, b2, a3, b3, a4, b4, a5, b5, a6, b6, a7, b7, a8, b8, a9, b9, a10, b10, a11, b11, c1, g1, c2, g2, c3, g3⟩ := r k hk
  exact hc_cong H (e _ (by omega) (by omega)).1 (e _ a2 b2).2 (e _ a3 b3).1 (e _ a4 b4).1 (e _ a5 b5).1 (e _ a6 b6).2 (e _ a7 b7).1 (e _ a8 b8).1 (e _ a9 b9).1 (e _ a10 b10).1 (e _ a11 b11).1 (e _ c1 g1).1 (e _ c2 g2).1 (e _ c3 g3).1
theorem im_cong {d d' : DD} (T : IM d) (e1 : d'.1 0 6 = d.1 0 6) (e2 : d'.1 109 = d.1 109) (e3 : d'.1 107 = d.1 107) (e4 : d'.2 108 = d.2 108) (e : ∀ a, 16 ≤ a → a ≤ 43 → d'.1 a = d.1 a ∧ d'.2 a = d.2 a) : IM d' := by
  obtain ⟨s, hs, h1, h2⟩ := T
  refine ⟨s, hs, by rw [e1]; exact h1, fun k hk => ⟨by rw [e2]; exact (h2 k hk).1, fun z => ?_⟩⟩
  obtain ⟨hk', V, H, X⟩ := (h2 k hk).2 z
  exact ⟨hk', V, by rw [e4]; exact im_hc hk H e, by rw [e3]; exact X⟩
theorem tk_cong {d d' : DD} (T : TK d) (e1 : d'.1 83 = d.1 83) (e2 : d'.1 86 35 = d.1 86 35) (e3 : d'.1 84 = d.1 84) (e4 : d'.1 105 = d.1 105) (e5 : d'.1 86 36 = d.1 86 36) (e6 : d'.1 106 = d.1 106) : TK d' := by
  unfold TK at T ⊢
  rw [e1, e2, e3, e4, e5, e6]
  exact T
theorem rw_cong {d d' : DD} (T : RW d) (e : d'.2 93 = d.2 93) : RW d' := by
  unfold RW at T ⊢
  rw [e]
  exact T
theorem pl_mid : ∀ a, a ≤ 43 → a ∈ PL := by
  have : ∀ a, a < 44 → a ∈ PL := by decide +kernel
  intro a ha
  exact this a (by omega)
theorem rl_fq {d d' : DD} (R : RZ d) (F : FQ d d') : RZ d' := by
  obtain ⟨⟨h, V, R1⟩, R2, R3, R4, R5, R6⟩ := R
  have sub : ∀ a, a ∈ [2, 3, 4, 5, 6, 7, 8, 9, 10, 11, 12, 13, 14, 15, 88, 92, 94, 95] → a ∈ PL := by decide
  refine ⟨⟨h, V, rh_cong R1 (fun a ha => F.1 a (sub a ha))⟩, tp_cong R2 ?_ ?_ ?_ ?_, fa_cong R3 ?_ ?_, im_cong R4 ?_ ?_ ?_ ?_ ?_, tk_cong R5 ?_ ?_ ?_ ?_ ?_ ?_, rw_cong R6 ?_⟩
  · rw [(F.1 0 (by decide)).1]
  · exact F.2 2 (by decide)
  · exact (F.1 1 (by decide)).1
  · exact (F.1 87 (by decide)).1
  · rw [(F.1 0 (by decide)).1]
  · exact F.2 16 (by decide)
  · rw [(F.1 0 (by decide)).1]
  · exact (F.1 109 (by decide)).1
  · exact (F.1 107 (by decide)).1
  · exact (F.1 108 (by decide)).2
  · exact fun a _ h2 => F.1 a (pl_mid a h2)
  · exact (F.1 83 (by decide)).1
  · exact F.2 35 (by decide)
  · exact (F.1 84 (by decide)).1
  · exact (F.1 105 (by decide)).1
  · exact F.2 36 (by decide)
  · exact (F.1 106 (by decide)).1
  · exact (F.1 93 (by decide)).2
def EQR {α : Type} (f g : DD → Option (α × DD)) (d : DD) : Prop := ∃ r d1 d2, f d = some (r, d1) ∧ g d1 = some (r, d2) ∧ RZ d2
theorem eqr_q {α : Type} {f g : DD → Option (α × DD)} {d : DD} (R : RZ d) (q : ∃ r d1 d2, f d = some (r, d1) ∧ g d1 = some (r, d2) ∧ FQ d d2) : EQR f g d := by
  obtain ⟨r, d1, d2, e1, e2, F⟩ := q
  exact ⟨r, d1, d2, e1, e2, rl_fq R F⟩
theorem rl_d0 : RZ d0 := by
  refine ⟨⟨fun _ => 0, ?_, ?_, ?_⟩, ⟨0, by omega, rfl, rfl, fun i hi => absurd hi (Nat.not_lt_zero i)⟩, rfl, ⟨0, by decide, rfl, fun k hk => ⟨?_, fun z => absurd z (by rw [Nat.zero_testBit]; decide)⟩⟩, ⟨0, false, by omega, rfl, rfl, fun i hi => absurd hi (Nat.not_lt_zero i), rfl, fun z => (by cases z), fun _ => ⟨rfl, rfl⟩⟩, ?_⟩
  · refine ⟨by decide, by decide, fun k hk => absurd hk (Nat.not_lt_zero k), fun k hk => absurd hk (Nat.not_lt_zero k), fun k hk => absurd hk (Nat.not_lt_zero k), fun _ _ => Nat.le_refl _, fun _ _ => Nat.zero_le _, by decide, fun k hk => absurd hk (Nat.not_lt_zero k)⟩
  · refine ⟨rfl, rfl, fun k hk => absurd hk (Nat.not_lt_zero k), fun k hk => absurd hk (Nat.not_lt_zero k), fun k hk => absurd hk (Nat.not_lt_zero k), fun k hk => absurd hk (Nat.not_lt_zero k), fun k hk => absurd hk (Nat.not_lt_zero k), fun k hk => absurd hk (Nat.not_lt_zero k), fun k hk => absurd hk (Nat.not_lt_zero k), fun j _ => ?_, fun u hu => ?_, ?_, fun k hk => absurd hk (Nat.not_lt_zero k)⟩
    · rw [rf_2_9]; rfl
    · rw [rf_2_10]
      show (if u < 30 then (-1 : Int32) else 0) = pI 0
      rw [if_pos hu, pI_0]
      rfl
    · rw [rf_2_11]; rfl
  · exact ⟨fun _ => rfl, fun k hk => absurd hk (Nat.not_lt_zero k), fun k _ hk => absurd hk (Nat.not_lt_zero k)⟩
  · rw [Nat.zero_testBit]; rfl
  · exact ⟨by rfl, by rfl, by rfl, by rfl, by rfl, by rfl, by rfl, by rfl, by rfl, by rfl⟩
