-- PURE ROWS: texts: what is left alone; rules, whole
def EF (d e : DD) (x : Int32) (S : List Nat) : Prop := (∀ a, a ≠ 0 → a ∉ S → (a < 44 ∨ 71 < a) → e.1 a = d.1 a ∧ e.2 a = d.2 a) ∧ e.1 0 6 = d.1 0 6 ∧ e.1 0 1 = 0 ∧ e.1 0 2 = x
theorem ef_end {d c : DD} {x : Int32} {S : List Nat} (h : ∀ a, a ∉ S → (a < 44 ∨ 71 < a) → c.1 a = d.1 a ∧ c.2 a = d.2 a) (h0 : 0 ∉ S) : EF d (u1 (u1 c 0 1 0) 0 2 x) x S := by
  refine ⟨fun a a0 aS ar => ⟨?_, (h a aS ar).2⟩, ?_, ?_, ?_⟩
  · rw [← (h a aS ar).1]
    funext i
    rw [u1_at, if_neg (fun z => a0 z.1), u1_at, if_neg (fun z => a0 z.1)]
  · rw [u1_at, if_neg (by omega), u1_at, if_neg (by omega), (h 0 h0 (by omega)).1]
  · rw [u1_at, if_neg (by omega), u1_at, if_pos ⟨rfl, rfl⟩]
  · rw [u1_at, if_pos ⟨rfl, rfl⟩]
def Bq (e : DD) (mo q : Nat) : DD := u1 (u1 (tkn e (nI mo)) 86 16 0) 86 q 0
theorem bq_1 {e : DD} {mo q a : Nat} (h : a ≠ 86) : (Bq e mo q).1 a = e.1 a := by
  unfold Bq
  funext i
  rw [u1_at, if_neg (fun z => h z.1), u1_at, if_neg (fun z => h z.1), tkn_1 h]
theorem bq_2 {e : DD} {mo q : Nat} : (Bq e mo q).2 = e.2 := rfl
theorem bq_86 {e : DD} {mo q j : Nat} (h : 5 < j) (h16 : j ≠ 16) (hq : j ≠ q) : (Bq e mo q).1 86 j = e.1 86 j := by
  unfold Bq
  rw [u1_at, if_neg (fun z => hq z.2), u1_at, if_neg (fun z => h16 z.2), tkn_86 h]
theorem bq_lo {e : DD} {mo q j : Nat} (h : j < 6) (hq : 6 ≤ q) : (Bq e mo q).1 86 j = (tkn e (nI mo)).1 86 j := by
  unfold Bq
  rw [u1_at, if_neg (by omega), u1_at, if_neg (by omega)]
theorem bq_16 {e : DD} {mo q : Nat} (hq : 16 < q) : (Bq e mo q).1 86 16 = nI 0 := by
  unfold Bq
  rw [u1_at, if_neg (by omega), u1_at, if_pos ⟨rfl, rfl⟩]
  rfl
theorem bq_q {e : DD} {mo q : Nat} : (Bq e mo q).1 86 q = nI 0 := by
  unfold Bq
  rw [u1_at, if_pos ⟨rfl, rfl⟩]
  rfl
theorem bq_bm {g : Nat → Nat} {n mo q : Nat} {e : DD} (hq : 6 ≤ q) (t2 : e.1 86 2 = nI n) (gm : ∀ i, i < n → e.1 87 i &&& 255 = nI (g i)) : BM (g, n, mo) (Bq e mo q) ∧ (Bq e mo q).1 86 4 = nI 0 := by
  refine ⟨⟨?_, ?_, fun i hi => ?_⟩, ?_⟩
  · rw [bq_lo (by omega) hq, tkn_size]; exact t2
  · rw [bq_lo (by omega) hq, tkn_lim]
  · rw [bq_1 (by decide)]; exact gm i hi
  · rw [bq_lo (by omega) hq, tkn_p]; rfl
def ER (d : DD) (x : Int32) (m : DD) : Prop := (∀ a, (16 ≤ a ∧ a ≤ 43) ∨ a ∈ [83, 84, 93, 105, 106, 107, 108, 109] → m.1 a = d.1 a ∧ m.2 a = d.2 a) ∧ m.1 0 6 = d.1 0 6 ∧ m.1 0 1 = 0 ∧ m.1 0 2 = x ∧ m.1 86 2 = 0 ∧ m.1 86 16 = x ∧ m.1 86 35 = d.1 86 35 ∧ m.1 86 36 = d.1 86 36
theorem rz_er {d m : DD} {x : Int32} (R : RZ d) (E : ER d x m) (hh : ∃ h, VH h ∧ RH m h) : RZ m := by
  obtain ⟨k, e6, e1, e2, m2, m16, m35, m36⟩ := E
  have R5 := R.2.2.2.2.1
  refine rz_gen R hh (tp_0 e1 m2) (e2.trans m16.symm) (tk_cong R5 (k 83 (by decide)).1 m35 (k 84 (by decide)).1 (k 105 (by decide)).1 m36 (k 106 (by decide)).1) e6 (fun a ha => k a ?_)
  simp only [List.mem_cons, List.not_mem_nil, or_false]
  omega
theorem er_mf {d e m : DD} {x : Int32} {S : List Nat} {mo q : Nat} (hS : ∀ a, a ∈ S → 1 < a ∧ a < 16) (E : EF d e x S) (hq : q = 20 ∨ q = 23) (F : MF (Bq e mo q) m) (h16 : m.1 86 16 = x) : ER d x m := by
  obtain ⟨k, e6, e1, e2⟩ := E
  have n0 : ∀ j, m.1 0 j = e.1 0 j := fun j => by rw [(F.1 0 (by decide)).1, bq_1 (by decide)]
  have e86 := (k 86 (by decide) (fun z => by have := hS 86 z; omega) (by omega)).1
  refine ⟨fun a ha => ?_, (n0 6).trans e6, (n0 1).trans e1, (n0 2).trans e2, ?_, h16, ?_, ?_⟩
  · have aS : a ∉ S := fun z => by
      have := hS a z
      simp only [List.mem_cons, List.not_mem_nil, or_false] at ha
      omega
    simp only [List.mem_cons, List.not_mem_nil, or_false] at ha
    have a86 : a ∉ [86, 89, 90, 91, 92] := by
      simp only [List.mem_cons, List.not_mem_nil, or_false]
      omega
    obtain ⟨x1, x2⟩ := F.1 a a86
    obtain ⟨y1, y2⟩ := k a (by omega) aS (by omega)
    refine ⟨?_, ?_⟩
    · rw [x1, bq_1 (by omega), y1]
    · rw [x2, bq_2, y2]
  · rw [F.2.2 2 (by decide), bq_lo (by omega) (by omega)]
    exact tkn_len _ _
  · rw [F.2.2 35 (by decide), bq_86 (by omega) (by omega) (by omega), e86]
  · rw [F.2.2 36 (by decide), bq_86 (by omega) (by omega) (by omega), e86]
theorem er_keep {d m m' : DD} {x : Int32} (E : ER d x m) (k : ∀ a, a ∉ [88, 92, 94, 95] → m'.1 a = m.1 a ∧ m'.2 a = m.2 a) : ER d x m' := by
  obtain ⟨a1, a2, a3, a4, a5, a6, a7, a8⟩ := E
  refine ⟨fun a ha => ?_, by rw [(k 0 (by decide)).1]; exact a2, by rw [(k 0 (by decide)).1]; exact a3, by rw [(k 0 (by decide)).1]; exact a4, by rw [(k 86 (by decide)).1]; exact a5, by rw [(k 86 (by decide)).1]; exact a6, by rw [(k 86 (by decide)).1]; exact a7, by rw [(k 86 (by decide)).1]; exact a8⟩
  have n : a ∉ [88, 92, 94, 95] := by
    simp only [List.mem_cons, List.not_mem_nil, or_false] at ha ⊢
    omega
  exact ⟨(k a n).1.trans (a1 a ha).1, (k a n).2.trans (a1 a ha).2⟩
-- the house as it was
theorem rh_mf {d m : DD} {h : Nat → Nat} (V : VH h) (R : RH d h) (k : ∀ a, a ∈ [2, 3, 4, 5, 6, 7, 8, 9, 10, 11, 12, 13, 14, 15, 88, 94, 95] → m.1 a = d.1 a ∧ m.2 a = d.2 a) (k92 : ∀ j, j < 7 → m.2 92 j = d.2 92 j) : RH m h := by
  obtain ⟨H, M⟩ := R
  have H1 : HC 2 m h (d.2 92) := hc_cong H (k 2 (by decide)).1 (by rw [rf_2_2]; exact (k 3 (by decide)).2) (by rw [rf_2_3]; exact (k 4 (by decide)).1) (by rw [rf_2_4]; exact (k 5 (by decide)).1) (by rw [rf_2_5]; exact (k 6 (by decide)).1) (by rw [rf_2_6]; exact (k 7 (by decide)).2) (by rw [rf_2_7]; exact (k 8 (by decide)).1) (by rw [rf_2_8]; exact (k 9 (by decide)).1) (by rw [rf_2_9]; exact (k 10 (by decide)).1) (by rw [rf_2_10]; exact (k 11 (by decide)).1) (by rw [rf_2_11]; exact (k 12 (by decide)).1) (by rw [rf_2_11, rf_12_1]; exact (k 13 (by decide)).1) (by rw [rf_2_11, rf_12_2]; exact (k 14 (by decide)).1) (by rw [rf_2_11, rf_12_3]; exact (k 15 (by decide)).1)
  exact ⟨hc_nm V H1 (fun j hj => (k92 j hj).symm), hm_keep M (k 88 (by decide)).1 (k 94 (by decide)).1 (k 95 (by decide)).1⟩
theorem rh_flt {d e m : DD} {x : Int32} {h : Nat → Nat} {mo q : Nat} (V : VH h) (R : RH d h) (E : EF d e x []) (F : MF (Bq e mo q) m) : RH m h := by
  have nn : ∀ a, a ∈ [2, 3, 4, 5, 6, 7, 8, 9, 10, 11, 12, 13, 14, 15, 88, 94, 95] → a ≠ 0 ∧ (a < 44 ∨ 71 < a) ∧ a ≠ 86 ∧ a ∉ [86, 89, 90, 91, 92] := by decide
  refine rh_mf V R (fun a ha => ?_) (fun j hj => ?_)
  · obtain ⟨a0, ar, a86, am⟩ := nn a ha
    obtain ⟨x1, x2⟩ := F.1 a am
    obtain ⟨y1, y2⟩ := E.1 a a0 (List.not_mem_nil) ar
    exact ⟨by rw [x1, bq_1 a86, y1], by rw [x2, bq_2, y2]⟩
  · rw [F.2.1 j hj, bq_2, (E.1 92 (by decide) List.not_mem_nil (by omega)).2]
-- the loops over the lines of rules
theorem rl_l {G : TX} {T : Nat} {h : Nat → Nat} {nm : Nat → Int64} {c0 m0 : DD} (X : VX G) (V : VH h) (H : HC 2 c0 h nm) (M0 : HM m0 h) (N : ∀ k, k < 7 → m0.2 92 k = nm k) (W : RW m0) : ∀ (k j L f f' : Nat) (t : Nat → Nat) (c m : DD), T ≤ j + k → k + 1 < f → k + 1 < f' → 2 * L ≤ j → RI G T h c0 m0 j t c m → m.1 86 20 = nI L → ∃ rc c', f_X3_readAll_12 2 f (nI L) (nI L) c = some (rc, c') ∧ ((rc = (-1 : Int32) ∧ ∃ m', f_X10_rules_47 f' m = some ((-1 : Int32) - m'.1 86 17, m') ∧ FLT c0 m0 c' m') ∨ ∃ L' j' t' m', rc = nI L' ∧ L' ≤ 940 ∧ f_X10_rules_47 f' m = f_X10_rules_92 FU 0 m' ∧ RI G T h c0 m0 j' t' c' m' ∧ m'.1 86 20 = nI L') := by
  intro k
  induction k with
  | zero =>
    intro j L f f' t c m hk hf hf' hL I h20
    obtain ⟨f, rfl⟩ : ∃ f1, f = f1 + 1 := ⟨f - 1, by omega⟩
    obtain ⟨f', rfl⟩ : ∃ f1, f' = f1 + 1 := ⟨f' - 1, by omega⟩
    have C := I.2.2.1
    have M := I.2.2.2.1
    have hjT := C.2.2.1
    have hT := C.2.2.2.1
    have L940 : nI L < (940 : Int32) := (nI_ltI (b := 940) (by omega) (by omega)).mpr (by omega)
    by_cases s : so G j = 0
    · refine ⟨nI L, c, ?_, Or.inr ⟨L, j, t, m, rfl, by omega, ?_, I, h20⟩⟩
      · show f_X3_readAll_12B 2 (f_X3_readAll_12 2 f) _ _ _ = _
        unfold f_X3_readAll_12B
        rw [if_pos L940, e_sort C, ob_e, if_pos (show nI (so G j) = 0 by rw [s]; rfl)]
      · show f_X10_rules_47B (f_X10_rules_47 f') _ = _
        unfold f_X10_rules_47B
        rw [if_pos ((ms_z M).mpr s)]
    · obtain ⟨r, c', m', ec, alt⟩ := l_rule X V H M0 N W I
      rcases alt with ⟨rfl, om, F⟩ | ⟨rfl, om, j', t', I', hj', e20⟩
      · refine ⟨-1, c', ?_, Or.inl ⟨rfl, m', ?_, F⟩⟩
        · show f_X3_readAll_12B 2 (f_X3_readAll_12 2 f) _ _ _ = _
          unfold f_X3_readAll_12B
          rw [if_pos L940, e_sort C, ob_e, if_neg (show ¬ nI (so G j) = 0 from fun z => s ((so_eq (s := 0) (by omega)).mp z))]
          dsimp only
          rw [ec, ob_e, if_pos rfl]
        · show f_X10_rules_47B (f_X10_rules_47 f') _ = _
          unfold f_X10_rules_47B
          rw [if_neg (fun z => s ((ms_z M).mp z))]
          rcases om with om | ⟨m1, om, sg⟩
          · rw [om, ob_e, if_pos rfl]
          · rw [om, ob_e]
            dsimp only
            rw [if_neg (show ¬ (1 : Int32) = 0 by decide), sg, ob_e, if_pos rfl]
      · have := I'.2.2.1.2.2.1
        omega
  | succ k ih =>
    intro j L f f' t c m hk hf hf' hL I h20
    obtain ⟨f, rfl⟩ : ∃ f1, f = f1 + 1 := ⟨f - 1, by omega⟩
    obtain ⟨f', rfl⟩ : ∃ f1, f' = f1 + 1 := ⟨f' - 1, by omega⟩
    have C := I.2.2.1
    have M := I.2.2.2.1
    have hjT := C.2.2.1
    have hT := C.2.2.2.1
    have L940 : nI L < (940 : Int32) := (nI_ltI (b := 940) (by omega) (by omega)).mpr (by omega)
    by_cases s : so G j = 0
    · refine ⟨nI L, c, ?_, Or.inr ⟨L, j, t, m, rfl, by omega, ?_, I, h20⟩⟩
      · show f_X3_readAll_12B 2 (f_X3_readAll_12 2 f) _ _ _ = _
        unfold f_X3_readAll_12B
        rw [if_pos L940, e_sort C, ob_e, if_pos (show nI (so G j) = 0 by rw [s]; rfl)]
      · show f_X10_rules_47B (f_X10_rules_47 f') _ = _
        unfold f_X10_rules_47B
        rw [if_pos ((ms_z M).mpr s)]
    · obtain ⟨r, c', m', ec, alt⟩ := l_rule X V H M0 N W I
      rcases alt with ⟨rfl, om, F⟩ | ⟨rfl, ⟨m1, om, sg⟩, j', t', I', hj', e20⟩
      · refine ⟨-1, c', ?_, Or.inl ⟨rfl, m', ?_, F⟩⟩
        · show f_X3_readAll_12B 2 (f_X3_readAll_12 2 f) _ _ _ = _
          unfold f_X3_readAll_12B
          rw [if_pos L940, e_sort C, ob_e, if_neg (show ¬ nI (so G j) = 0 from fun z => s ((so_eq (s := 0) (by omega)).mp z))]
          dsimp only
          rw [ec, ob_e, if_pos rfl]
        · show f_X10_rules_47B (f_X10_rules_47 f') _ = _
          unfold f_X10_rules_47B
          rw [if_neg (fun z => s ((ms_z M).mp z))]
          rcases om with om | ⟨m1, om, sg⟩
          · rw [om, ob_e, if_pos rfl]
          · rw [om, ob_e]
            dsimp only
            rw [if_neg (show ¬ (1 : Int32) = 0 by decide), sg, ob_e, if_pos rfl]
      · have I2 : RI G T h c0 m0 j' t' c' (u1 m' 86 20 (nI (L + 1))) := by
          obtain ⟨a1, a2, a3, a4, a5, a6, a7⟩ := I'
          refine ⟨a1, mf_86 a2 (by decide), a3, ms_keep a4 (by funext i; rw [u1_at, if_neg (by omega)]) rfl (fun i hi => by rw [u1_at, if_neg (fun z => by rw [z.2] at hi; exact absurd hi (by decide))]), a5, ?_, fun u hu => ⟨(a7 u hu).1, ?_, (a7 u hu).2.2⟩⟩
          · rw [u1_at, if_neg (by omega)]; exact a6
          · rw [u1_at, if_neg (by omega)]; exact (a7 u hu).2.1
        obtain ⟨rc, c'', e1, e2⟩ := ih j' (L + 1) f f' t' c' _ (by omega) (by omega) (by omega) (by omega) I2 (by rw [u1_at, if_pos ⟨rfl, rfl⟩])
        have step : f_X10_rules_47 (f' + 1) m = f_X10_rules_47 f' (u1 m' 86 20 (nI (L + 1))) := by
          show f_X10_rules_47B (f_X10_rules_47 f') _ = _
          unfold f_X10_rules_47B
          rw [if_neg (fun z => s ((ms_z M).mp z)), om, ob_e]
          dsimp only
          rw [if_neg (show ¬ (1 : Int32) = 0 by decide), sg, ob_e]
          dsimp only
          rw [if_neg (show ¬ (1 : Int32) = 0 by decide), e20, h20, nI_1, bd_e]
        refine ⟨rc, c'', ?_, ?_⟩
        · show f_X3_readAll_12B 2 (f_X3_readAll_12 2 f) _ _ _ = _
          unfold f_X3_readAll_12B
          rw [if_pos L940, e_sort C, ob_e, if_neg (show ¬ nI (so G j) = 0 from fun z => s ((so_eq (s := 0) (by omega)).mp z))]
          dsimp only
          rw [ec, ob_e, if_neg (show ¬ (1 : Int32) = 0 by decide), nI_1]
          exact e1
        · rw [step]
          exact e2
theorem mr92 {mA : DD} : ∀ (n u f : Nat) (m : DD), u + n = 30 → n < f → FR [88] mA m → (∀ j, m.1 88 j = if 19 ≤ j ∧ j < 19 + u then mA.1 91 (j - 19) else mA.1 88 j) → OW (f_X10_rules_92 f (nI u) m) (fun r m' => r = mA.1 86 20 ∧ FR [88] mA m' ∧ ∀ j, m'.1 88 j = if 19 ≤ j ∧ j < 49 then mA.1 91 (j - 19) else mA.1 88 j) := by
  intro n
  induction n with
  | zero =>
    intro u f m hu hf F h88
    obtain ⟨f, rfl⟩ : ∃ f', f = f' + 1 := ⟨f - 1, by omega⟩
    show OW (f_X10_rules_92B (f_X10_rules_92 f) _ _) _
    unfold f_X10_rules_92B
    have e : u = 30 := by omega
    subst e
    rw [if_neg (by decide)]
    exact ow_ret ⟨by rw [(F 86 (by decide)).1], F, h88⟩
  | succ n ih =>
    intro u f m hu hf F h88
    obtain ⟨f, rfl⟩ : ∃ f', f = f' + 1 := ⟨f - 1, by omega⟩
    show OW (f_X10_rules_92B (f_X10_rules_92 f) _ _) _
    unfold f_X10_rules_92B
    rw [if_pos (show nI u < (30 : Int32) from (nI_ltI (b := 30) (by omega) (by omega)).mpr (by omega)), if_pos ((ix_nI (by omega)).mpr (by rw [ln_91]; omega)), show (19 : Int32) + nI u = nI (19 + u) from by rw [show (19 : Int32) = nI 19 from rfl, nI_add], if_pos ((ix_nI (by omega)).mpr (by rw [ln_88]; omega)), nI_clamp (by omega), nI_clamp (by omega), bd_e, nI_1, (F 91 (by decide)).1]
    refine ih (u + 1) f _ (by omega) (by omega) (fr_u1 F (by decide)) (fun j => ?_)
    rw [u1_at]
    by_cases c : j = 19 + u
    · rw [if_pos ⟨rfl, c⟩, if_pos (by omega), c, show 19 + u - 19 = u by omega]
    · rw [if_neg (fun z => c z.2), h88 j]
      by_cases c2 : 19 ≤ j ∧ j < 19 + u
      · rw [if_pos c2, if_pos (by omega)]
      · rw [if_neg c2, if_neg (by omega)]
theorem mr24 {mB : DD} : ∀ (n u f : Nat) (m : DD), u + n = 30 → n < f → FR [91] mB m → (∀ w, w < u → m.1 91 w = nI 0) → ∃ m', f_X10_rules_24 f (nI u) m = (f_X10_skip m').bind (fun q5 => f_X10_rules_47 FU q5.2) ∧ FR [91] mB m' ∧ ∀ w, w < 30 → m'.1 91 w = nI 0 := by
  intro n
  induction n with
  | zero =>
    intro u f m hu hf F h91
    obtain ⟨f, rfl⟩ : ∃ f', f = f' + 1 := ⟨f - 1, by omega⟩
    have e : u = 30 := by omega
    subst e
    refine ⟨m, ?_, F, h91⟩
    show f_X10_rules_24B (f_X10_rules_24 f) _ _ = _
    unfold f_X10_rules_24B
    rw [if_neg (by decide)]
  | succ n ih =>
    intro u f m hu hf F h91
    obtain ⟨f, rfl⟩ : ∃ f', f = f' + 1 := ⟨f - 1, by omega⟩
    obtain ⟨m', e, a, b⟩ := ih (u + 1) f (u1 m 91 u 0) (by omega) (by omega) (fr_u1 F (by decide)) (fun w hw => by
      rw [u1_at]
      by_cases c : w = u
      · rw [if_pos ⟨rfl, c⟩]; rfl
      · rw [if_neg (fun z => c z.2)]; exact h91 w (by omega))
    refine ⟨m', ?_, a, b⟩
    show f_X10_rules_24B (f_X10_rules_24 f) _ _ = _
    unfold f_X10_rules_24B
    rw [if_pos (show nI u < (30 : Int32) from (nI_ltI (b := 30) (by omega) (by omega)).mpr (by omega)), if_pos ((ix_nI (by omega)).mpr (by rw [ln_91]; omega)), nI_clamp (by omega), bd_e, nI_1]
    exact e
theorem mr_start {g : Nat → Nat} {n : Nat} {e : DD} (X : VX (g, n, 300)) (t2 : e.1 86 2 = nI n) (gm : ∀ i, i < n → e.1 87 i &&& 255 = nI (g i)) : ∃ mS, f_X10_rules e = f_X10_rules_47 FU mS ∧ MF (Bq e 300 20) mS ∧ MS (g, n, 300) mS 0 ∧ mS.1 86 16 = nI 0 ∧ mS.1 86 20 = nI 0 ∧ ∀ u, u < 30 → mS.1 91 u = nI 0 := by
  obtain ⟨B, b4⟩ := bq_bm (mo := 300) (q := 20) (by omega) t2 gm
  obtain ⟨m1, e1, F1, z1⟩ := mr24 (mB := Bq e 300 20) 30 0 FU (Bq e 300 20) (by omega) (by unfold FU; omega) (fr_refl _ _) (fun w hw => absurd hw (Nat.not_lt_zero w))
  have B1 : BM (g, n, 300) m1 := by
    obtain ⟨x1, x2, x3⟩ := B
    refine ⟨by rw [(F1 86 (by decide)).1]; exact x1, by rw [(F1 86 (by decide)).1]; exact x2, fun i hi => by rw [(F1 87 (by decide)).1]; exact x3 i hi⟩
  obtain ⟨m2, e2, S2, T2⟩ := e_skip X B1 (p := 0) (by rw [(F1 86 (by decide)).1]; exact b4) (Nat.zero_le _)
  have Fm1 : MF (Bq e 300 20) m1 := ⟨fun b hb => F1 b (fun z => hb (by
    simp only [List.mem_cons, List.not_mem_nil, or_false] at z ⊢
    omega)), fun k _ => by rw [(F1 92 (by decide)).2], fun q _ => by rw [(F1 86 (by decide)).1]⟩
  refine ⟨m2, ?_, mf_trans Fm1 (mf_sk S2), ⟨bm_sk B1 S2, T2⟩, ?_, ?_, fun u hu => ?_⟩
  · have q : f_X10_rules e = f_X10_rules_24 FU (nI 0) (Bq e 300 20) := by
      unfold f_X10_rules
      rw [bd_e, e_X10_taken, ob_e]
      dsimp only
      rw [bd_e, bd_e]
      rfl
    rw [q, e1, e2, ob_e]
  · rw [S2.2 16 (by decide), (F1 86 (by decide)).1, bq_16 (by omega)]
  · rw [S2.2 20 (by decide), (F1 86 (by decide)).1, bq_q]
  · rw [(S2.1 91 (by decide)).1]; exact z1 u hu
theorem e_endT (c : DD) {L : Nat} (hL : L ≤ 940) : f_X9_endText (nI L) c = some (nI L, u1 (u1 c 0 1 0) 0 2 (c.1 44 2)) := by
  unfold f_X9_endText
  rw [bd_e, bd_e, if_neg (nI_nm (by omega)), show (u1 c 0 1 0).1 44 2 = c.1 44 2 from by rw [u1_at, if_neg (by omega)]]
theorem e_endB (c : DD) : f_X9_endText (-1 : Int32) c = some ((-1 : Int32) - c.1 44 3, u1 (u1 c 0 1 0) 0 2 (c.1 44 2)) := by
  unfold f_X9_endText
  rw [bd_e, bd_e, if_pos rfl, show (u1 c 0 1 0).1 44 2 = c.1 44 2 from by rw [u1_at, if_neg (by omega)], show (u1 (u1 c 0 1 0) 0 2 (c.1 44 2)).1 44 3 = c.1 44 3 from by rw [u1_at, if_neg (by omega), u1_at, if_neg (by omega)]]
def hRu (h t : Nat → Nat) : Nat → Nat := fun j => if 19 ≤ j ∧ j < 49 then t (j - 19) else h j
theorem hR_o {h t : Nat → Nat} {k : Nat} (hk : k < 19 ∨ 48 < k) : hRu h t k = h k := if_neg (by omega)
theorem hR_t {h t : Nat → Nat} {u : Nat} (hu : u < 30) : hRu h t (19 + u) = t u := by
  unfold hRu
  rw [if_pos (by omega), show 19 + u - 19 = u by omega]
theorem vh_R {h t : Nat → Nat} (V : VH h) (A : ∀ u, u < 30 → t u ≤ h 1) : VH (hRu h t) := by
  have v0 := V.1
  have v1 := V.2.1
  have s : ∀ k, (k < 19 ∨ 48 < k) → hRu h t k = h k := fun k hk => hR_o hk
  obtain ⟨w0, w1, w2, w3, w4, w5, w6, w7, w8⟩ := V
  refine ⟨by rw [s 0 (by omega)]; exact w0, by rw [s 1 (by omega)]; exact w1, fun k hk => ?_, fun k hk => ?_, fun k hk => ?_, fun u hu => ?_, fun k hk => ?_, by rw [s 169 (by omega)]; exact w7, fun k hk => ?_⟩
  · rw [s 0 (by omega)] at hk
    rw [s (2 + k) (by omega), s (5 + k) (by omega), s (8 + k) (by omega)]
    exact w2 k hk
  · rw [s 1 (by omega)] at hk
    rw [s (11 + k) (by omega), s 0 (by omega)]
    exact w3 k hk
  · rw [s 1 (by omega)] at hk
    rw [s (15 + k) (by omega)]
    exact w4 k hk
  · rw [s 1 (by omega), hR_t hu]
    exact A u hu
  · rw [s (49 + k) (by omega)]
    exact w6 k hk
  · rw [s 169 (by omega)] at hk
    rw [s (170 + 3 * k) (by omega), s (170 + 3 * k + 1) (by omega), s (170 + 3 * k + 2) (by omega), s 0 (by omega), s 1 (by omega)]
    exact w8 k hk
theorem hc_R {d m : DD} {h t : Nat → Nat} {nm : Nat → Int64} (V : VH h) (H : HC 2 d h nm) (kd : ∀ a, a ∈ [2, 3, 4, 5, 6, 7, 8, 9, 10, 12, 13, 14, 15] → m.1 a = d.1 a ∧ m.2 a = d.2 a) (e11 : ∀ u, u < 30 → m.1 11 u = pI (t u)) : HC 2 m (hRu h t) nm := by
  have v0 := V.1
  have v1 := V.2.1
  have s : ∀ k, (k < 19 ∨ 48 < k) → hRu h t k = h k := fun k hk => hR_o hk
  unfold HC at H ⊢
  simp only [rf_2_2, rf_2_3, rf_2_4, rf_2_5, rf_2_6, rf_2_7, rf_2_8, rf_2_9, rf_2_10, rf_2_11, rf_12_1, rf_12_2, rf_12_3] at H ⊢
  rw [(kd 2 (by decide)).1, (kd 3 (by decide)).2, (kd 4 (by decide)).1, (kd 5 (by decide)).1, (kd 6 (by decide)).1, (kd 7 (by decide)).2, (kd 8 (by decide)).1, (kd 9 (by decide)).1, (kd 10 (by decide)).1, (kd 12 (by decide)).1, (kd 13 (by decide)).1, (kd 14 (by decide)).1, (kd 15 (by decide)).1, s 0 (by omega), s 1 (by omega), s 169 (by omega)]
  obtain ⟨a0, a1, a2', a3, a4, a5, a6, a7, a8, a9, a10, a11, a12⟩ := H
  refine ⟨a0, a1, a2', fun k hk => ?_, fun k hk => ?_, fun k hk => ?_, a6, fun k hk => ?_, fun k hk => ?_, fun k hk => ?_, fun u hu => ?_, a11, fun k hk => ?_⟩
  · rw [s (2 + k) (by omega)]; exact a3 k hk
  · rw [s (5 + k) (by omega)]; exact a4 k hk
  · rw [s (8 + k) (by omega)]; exact a5 k hk
  · rw [s (11 + k) (by omega)]; exact a7 k hk
  · rw [s (15 + k) (by omega)]; exact a8 k hk
  · rw [s (49 + k) (by omega)]; exact a9 k hk
  · rw [hR_t hu]
    exact e11 u hu
  · rw [s (170 + 3 * k) (by omega), s (170 + 3 * k + 1) (by omega), s (170 + 3 * k + 2) (by omega)]
    exact a12 k hk
theorem hm_R {d m : DD} {h t : Nat → Nat} (V : VH h) (M : HM d h) (k88 : ∀ j, m.1 88 j = nI (hRu h t j)) (k94 : m.1 94 = d.1 94) (k95 : m.1 95 = d.1 95) : HM m (hRu h t) := by
  have v0 := V.1
  have s : ∀ k, (k < 19 ∨ 48 < k) → hRu h t k = h k := fun k hk => hR_o hk
  refine ⟨k88, fun k hk => ?_, fun k u hk hu => ?_⟩
  · rw [s 0 (by omega)] at hk
    rw [s (2 + k) (by omega), s (5 + k) (by omega), k95]
    exact M.2.1 k hk
  · rw [s 0 (by omega)] at hk
    rw [s (2 + k) (by omega), s (5 + k) (by omega)] at hu
    rw [s (2 + k) (by omega), k94]
    exact M.2.2 k u hk hu
theorem s_rules {d : DD} (R : RZ d) : EQR f_X9_rules f_X10_rules d := by
  have RR := R
  obtain ⟨⟨h, V, RH1⟩, TPd, R3, R4, R5, RWd⟩ := R
  obtain ⟨n, g, hn, hg, t1, t2, gc, gm⟩ := tp_g TPd
  have v1 := V.2.1
  have X : VX (g, n, 300) := ⟨hg, hn, by show 300 ≤ 940; omega⟩
  obtain ⟨_, cA, eA, FA', kA, T, CA⟩ := e_begin (G := (g, n, 300)) (d := d) X gc
  obtain ⟨_, cB, eB, FB, zB⟩ := e_fill1 (p := 71) (-1) cA
  have FcB : CFR d cB := fun a ha => by
    have n1 : a ∉ [44, 45, 46, 47, 48] := by
      simp only [List.mem_cons, List.not_mem_nil, or_false]
      omega
    have n2 : a ∉ [71] := by
      simp only [List.mem_cons, List.not_mem_nil, or_false]
      omega
    exact ⟨(FB a n2).1.trans (FA' a n1).1, (FB a n2).2.trans (FA' a n1).2⟩
  have CB : CUR (g, n, 300) T 0 cB := cur_keep CA (FB 46 (by decide)).1 (FB 47 (by decide)).1 (FB 48 (by decide)).2 (by rw [(FB 44 (by decide)).1])
  have kB : cB.1 44 2 = nI 0 := by rw [(FB 44 (by decide)).1]; exact kA
  have zB' : ∀ u, u < 30 → cB.1 71 u = pI 0 := fun u hu => by rw [zB u (by rw [ln_71]; exact hu), pI_0]; rfl
  have hT := CB.2.2.2.1
  -- both run, the model from any state that holds the same house and tape
  have run : ∀ e : DD, e.1 86 2 = nI n → (∀ i, i < n → e.1 87 i &&& 255 = nI (g i)) → HM e h → (∀ k, k < 7 → e.2 92 k = d.2 92 k) → RW e → ∃ rc c', f_X3_readAll_12 2 FU (nI 0) (nI 0) cB = some (rc, c') ∧ ((rc = (-1 : Int32) ∧ ∃ m', f_X10_rules e = some ((-1 : Int32) - m'.1 86 17, m') ∧ FLT d (Bq e 300 20) c' m') ∨ ∃ L' j' t' m', rc = nI L' ∧ L' ≤ 940 ∧ f_X10_rules e = f_X10_rules_92 FU 0 m' ∧ RI (g, n, 300) T h d (Bq e 300 20) j' t' c' m' ∧ m'.1 86 20 = nI L') := by
    intro e e2 egm eM eN eW
    obtain ⟨mS, q1, q2, q3, q4, q5, q6⟩ := mr_start X e2 egm
    have bM : HM (Bq e 300 20) h := hm_keep eM (bq_1 (by decide)) (bq_1 (by decide)) (bq_1 (by decide))
    have bW : RW (Bq e 300 20) := rw_cong eW rfl
    have I0 : RI (g, n, 300) T h d (Bq e 300 20) 0 (fun _ => 0) cB mS := ⟨FcB, q2, CB, q3, kB, q4, fun u hu => ⟨zB' u hu, q6 u hu, Nat.zero_le _⟩⟩
    rw [q1]
    exact rl_l X V RH1.1 bM eN bW T 0 0 FU FU _ cB mS (by omega) (by unfold FU; omega) (by unfold FU; omega) (by omega) I0 q5
  have cls : ∀ rc c', f_X3_readAll_12 2 FU (nI 0) (nI 0) cB = some (rc, c') → f_X9_rules d = if rc = (-1 : Int32) then f_X9_rules_52 rc c' else (f_X9_copyRow 71 11 c').bind fun q4 => f_X9_rules_52 rc q4.2 := by
    intro rc c' ec
    unfold f_X9_rules
    rw [t1, show f_X0_begin 1 (nI n) (300 : Int32) d = _ from eA, ob_e]
    dsimp only
    unfold f_X3_readAll
    rw [eB, ob_e]
    dsimp only
    rw [show f_X3_readAll_12 2 FU (0 : Int32) (0 : Int32) cB = _ from ec, ob_e]
  obtain ⟨rc, cf, ec, alt⟩ := run d t2 gm RH1.2 (fun _ _ => rfl) RWd
  rcases alt with ⟨rfl, md, _, Fd⟩ | ⟨L, jd, td, md, rfl, hL, _, Id, _⟩
  · have Fcf : CFR d cf := Fd.1
    have E : EF d (u1 (u1 cf 0 1 0) 0 2 (cf.1 44 2)) (cf.1 44 2) [] := ef_end (fun a _ ha => Fcf a ha) List.not_mem_nil
    have k86 := (E.1 86 (by decide) List.not_mem_nil (by omega)).1
    obtain ⟨rc', cf', ec', alt'⟩ := run (u1 (u1 cf 0 1 0) 0 2 (cf.1 44 2)) (by rw [k86]; exact t2) (fun i hi => by rw [(E.1 87 (by decide) List.not_mem_nil (by omega)).1]; exact gm i hi) (hm_keep RH1.2 (E.1 88 (by decide) List.not_mem_nil (by omega)).1 (E.1 94 (by decide) List.not_mem_nil (by omega)).1 (E.1 95 (by decide) List.not_mem_nil (by omega)).1) (fun k _ => by rw [(E.1 92 (by decide) List.not_mem_nil (by omega)).2]) (rw_cong RWd (E.1 93 (by decide) List.not_mem_nil (by omega)).2)
    rw [ec] at ec'
    injection ec' with ec'
    injection ec' with y1 y2
    subst y1
    subst y2
    rcases alt' with ⟨_, m', em, _, Fm, k, p, hp, x1, x2, x3, x4⟩ | ⟨L', _, _, _, z, hL', _⟩
    · refine ⟨(-1 : Int32) - cf.1 44 3, u1 (u1 cf 0 1 0) 0 2 (cf.1 44 2), m', ?_, ?_, ?_⟩
      · rw [cls _ _ ec, if_pos rfl]
        unfold f_X9_rules_52
        rw [e_endB, ob_e]
      · rw [em, x4, x2]
      · exact rz_er RR (er_mf (fun a ha => absurd ha List.not_mem_nil) E (Or.inl rfl) Fm (by rw [x3, x1])) ⟨h, V, rh_flt V RH1 E Fm⟩
    · exact absurd z.symm (nI_nm (by omega))
  · obtain ⟨Fcf, _, _, _, kf, _, Ad⟩ := Id
    have hcp : f_X9_copyRow 71 11 cf = some ((), cpy1 cf 71 11 0 30) := by
      rw [e_X9_copyRow (by decide), ln_71, ln_11]
      rfl
    have E : EF d (u1 (u1 (cpy1 cf 71 11 0 30) 0 1 0) 0 2 (nI 0)) (nI 0) [11] := ef_end (fun a hS ha => by
      simp only [List.mem_cons, List.not_mem_nil, or_false] at hS
      obtain ⟨x1, x2⟩ := Fcf a ha
      refine ⟨?_, x2⟩
      rw [← x1]
      funext i
      rw [cpy1_at, if_neg (by omega)]) (by decide)
    have k86 := (E.1 86 (by decide) (by decide) (by omega)).1
    obtain ⟨rc', cf', ec', alt'⟩ := run (u1 (u1 (cpy1 cf 71 11 0 30) 0 1 0) 0 2 (nI 0)) (by rw [k86]; exact t2) (fun i hi => by rw [(E.1 87 (by decide) (by decide) (by omega)).1]; exact gm i hi) (hm_keep RH1.2 (E.1 88 (by decide) (by decide) (by omega)).1 (E.1 94 (by decide) (by decide) (by omega)).1 (E.1 95 (by decide) (by decide) (by omega)).1) (fun k _ => by rw [(E.1 92 (by decide) (by decide) (by omega)).2]) (rw_cong RWd (E.1 93 (by decide) (by decide) (by omega)).2)
    rw [ec] at ec'
    injection ec' with ec'
    injection ec' with y1 y2
    subst y2
    rcases alt' with ⟨z, _⟩ | ⟨L', j', t', m', z, hL', em, I', e20⟩
    · rw [← y1] at z
      exact absurd z (nI_nm (by omega))
    · obtain ⟨_, Fm, _, _, _, m16, A⟩ := I'
      rw [← y1] at z
      obtain ⟨r, m2, e2, er, F2, a2⟩ := mr92 (mA := m') 30 0 FU m' (by omega) (by unfold FU; omega) (fr_refl _ _) (fun j => by rw [if_neg (by omega)])
      refine ⟨nI L, u1 (u1 (cpy1 cf 71 11 0 30) 0 1 0) 0 2 (nI 0), m2, ?_, ?_, ?_⟩
      · rw [cls _ _ ec, if_neg (nI_nm (by omega)), hcp, ob_e]
        unfold f_X9_rules_52
        dsimp only
        rw [e_endT _ hL, ob_e, show (cpy1 cf 71 11 0 30).1 44 2 = nI 0 from by rw [cpy1_at, if_neg (by omega)]; exact kf]
      · rw [em, show f_X10_rules_92 FU (0 : Int32) m' = _ from e2, er, e20, z]
      · have hE : ER d (nI 0) m' := er_mf (fun a ha => by
          simp only [List.mem_cons, List.not_mem_nil, or_false] at ha
          omega) E (Or.inl rfl) Fm m16
        refine rz_er RR (er_keep hE (fun a ha => F2 a (fun z => ha (by
          simp only [List.mem_cons, List.not_mem_nil, or_false] at z ⊢
          omega)))) ⟨hRu h t', vh_R V (fun u hu => (A u hu).2.2), ?_, ?_⟩
        · have kd : ∀ a, a ∈ [2, 3, 4, 5, 6, 7, 8, 9, 10, 12, 13, 14, 15] → m2.1 a = d.1 a ∧ m2.2 a = d.2 a := by
            intro a ha
            have n1 : a ≠ 0 ∧ a ∉ [11] ∧ (a < 44 ∨ 71 < a) ∧ a ≠ 86 ∧ a ∉ [86, 89, 90, 91, 92] ∧ a ∉ [88] := (by decide : ∀ a, a ∈ [2, 3, 4, 5, 6, 7, 8, 9, 10, 12, 13, 14, 15] → a ≠ 0 ∧ a ∉ [11] ∧ (a < 44 ∨ 71 < a) ∧ a ≠ 86 ∧ a ∉ [86, 89, 90, 91, 92] ∧ a ∉ [88]) a ha
            obtain ⟨a0, aS, ar, a86, am, a88⟩ := n1
            exact ⟨by rw [(F2 a a88).1, (Fm.1 a am).1, bq_1 a86, (E.1 a a0 aS ar).1], by rw [(F2 a a88).2, (Fm.1 a am).2, bq_2, (E.1 a a0 aS ar).2]⟩
          have k92 : ∀ j, j < 7 → d.2 92 j = m2.2 92 j := fun j hj => by rw [(F2 92 (by decide)).2, Fm.2.1 j hj, bq_2, (E.1 92 (by decide) (by decide) (by omega)).2]
          have e11 : ∀ u, u < 30 → m2.1 11 u = pI (t' u) := by
            intro u hu
            rw [(F2 11 (by decide)).1, (Fm.1 11 (by decide)).1, bq_1 (by decide), u1_at, if_neg (by omega), u1_at, if_neg (by omega), cpy1_at, if_pos ⟨rfl, Nat.zero_le _, hu⟩]
            exact (A u hu).1
          exact hc_nm (nm := d.2 92) (vh_R V (fun u hu => (A u hu).2.2)) (hc_R V RH1.1 kd e11) k92
        · have k1 : ∀ a, a ∈ [88, 94, 95] → m'.1 a = d.1 a := by
            intro a ha
            have n1 : a ≠ 0 ∧ a ∉ [11] ∧ (a < 44 ∨ 71 < a) ∧ a ≠ 86 ∧ a ∉ [86, 89, 90, 91, 92] := (by decide : ∀ a, a ∈ [88, 94, 95] → a ≠ 0 ∧ a ∉ [11] ∧ (a < 44 ∨ 71 < a) ∧ a ≠ 86 ∧ a ∉ [86, 89, 90, 91, 92]) a ha
            obtain ⟨a0, aS, ar, a86, am⟩ := n1
            rw [(Fm.1 a am).1, bq_1 a86, (E.1 a a0 aS ar).1]
          refine hm_R V RH1.2 (fun j => ?_) ((F2 94 (by decide)).1.trans (k1 94 (by decide))) ((F2 95 (by decide)).1.trans (k1 95 (by decide)))
          rw [a2 j]
          unfold hRu
          by_cases c : 19 ≤ j ∧ j < 49
          · rw [if_pos c, if_pos c]
            exact (A (j - 19) (by omega)).2.1
          · rw [if_neg c, if_neg c, k1 88 (by decide)]
            exact RH1.2.1 j
