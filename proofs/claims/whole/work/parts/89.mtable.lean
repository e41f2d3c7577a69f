-- PURE ROWS: the table: the model holds it
def MTB (N lo tr : Nat) (L sp : Nat → Nat) (n : Nat) (d0 : DD) (j : Nat) (d : DD) : Prop := FR [104, 105] d0 d ∧ (∀ i, i < n → d.1 104 i = nI (sp i)) ∧ ∀ q, q < j → d.1 105 q = bI (SY N lo tr L n q)
theorem mtb_s {N lo tr : Nat} {L sp : Nat → Nat} {n j : Nat} {d0 d : DD} (C : MTB N lo tr L sp n d0 j d) : MTB N lo tr L sp n d0 (j + 1) (u1 d 105 j (bI (SY N lo tr L n j))) := by
  obtain ⟨F, h104, h105⟩ := C
  refine ⟨fr_u1 F (by decide), fun i hi => ?_, fun q hq => ?_⟩
  · rw [u1_at, if_neg (by omega)]; exact h104 i hi
  · rw [u1_at]
    by_cases c : q = j
    · rw [if_pos ⟨rfl, c⟩, c]
    · rw [if_neg (fun z => c z.2)]
      exact h105 q (by omega)
theorem m205 {h : Nat → Nat} {d : DD} (V : VH h) (M : HM d h) {k a i j : Nat} {P : Nat → Bool} (b : Bool) (hk : k < h 0) (ha : a < h 1) (hj : j < 400) (v4 : Int64) (k144 : Int32 → Int64 → Int64 → Int32 → DD → Option (Int32 × DD)) (k157 : Int32 → Int64 → Int64 → Int32 → Int32 → DD → Option (Int32 × DD)) : ∀ (m t f : Nat), t + m = tn (h (2 + k)) (h (5 + k)) → m < f → f_X10_table_205 k144 k157 f (nI k) (mkL P) v4 (nI j) (nI i) (nI a) (bI b) (mkL (fun z => decide (z < t) && sX (tn (h (2 + k)) (h (5 + k))) (h (2 + k)) (h (15 + a)) b P z)) (nI t) d = k157 (nI k) (mkL (fun z => decide (z < tn (h (2 + k)) (h (5 + k))) && sX (tn (h (2 + k)) (h (5 + k))) (h (2 + k)) (h (15 + a)) b P z)) v4 (nI (j + 1)) (nI (i + 1)) (u1 d 105 j (bI b)) := by
  have v0 := V.1
  have v1 := V.2.1
  have v := V.2.2.1 k hk
  have tle := tn_le (lo := h (2 + k)) v.2.2.1
  have m95 := M.2.1 k hk
  intro m
  induction m with
  | zero =>
    intro t f ht hf
    cases f with
    | zero => omega
    | succ f =>
      show f_X10_table_205B k144 k157 (f_X10_table_205 k144 k157 f) _ _ _ _ _ _ _ _ _ _ = _
      unfold f_X10_table_205B
      have ix : ixb (nI j) (ln 105) := (ix_nI (by omega)).mpr (by rw [ln_105]; exact hj)
      rw [if_pos ((ix_nI (by omega)).mpr (by rw [ln_95]; omega)), nI_clamp (show k < 2 ^ 31 by omega), m95, if_neg (by rw [nI_ltI (by omega) (by omega)]; omega), nI_1, nI_1, show t = tn (h (2 + k)) (h (5 + k)) by omega]
      cases b
      · rw [if_pos (show bI false = 0 from rfl), if_pos ix, bd_e, nI_clamp (show j < 2 ^ 31 by omega)]
        rfl
      · rw [if_neg (show ¬ bI true = 0 by decide), if_pos ix, bd_e, nI_clamp (show j < 2 ^ 31 by omega)]
        rfl
  | succ m ih =>
    intro t f ht hf
    cases f with
    | zero => omega
    | succ f =>
      have s := ih (t + 1) f (by omega) (by omega)
      have ht' : t < tn (h (2 + k)) (h (5 + k)) := by omega
      show f_X10_table_205B k144 k157 (f_X10_table_205 k144 k157 f) _ _ _ _ _ _ _ _ _ _ = _
      unfold f_X10_table_205B
      have hb : ((mkL P >>> ((nI t).toInt64 &&& 63)) &&& (1 : Int64) = (1 : Int64)) ↔ P t = true := by
        rw [← bl_mk (P := P) (show t < 64 by omega)]
        exact lx_has (by omega)
      rw [if_pos ((ix_nI (by omega)).mpr (by rw [ln_95]; omega)), nI_clamp (show k < 2 ^ 31 by omega), m95, if_pos (by rw [nI_ltI (by omega) (by omega)]; omega), nI_1 t]
      by_cases c1 : P t = true
      · rw [if_pos (hb.mpr c1), e_alike V M P hk ha ht', ob_e]
        dsimp only
        have w : ∀ b' : Bool, b' = ao (tn (h (2 + k)) (h (5 + k))) (h (2 + k)) (h (15 + a)) P t → f_X10_table_246 k144 k157 (f_X10_table_205 k144 k157 f) (nI k) (mkL P) v4 (nI j) (nI i) (nI a) (bI b) (mkL (fun z => decide (z < t) && sX (tn (h (2 + k)) (h (5 + k))) (h (2 + k)) (h (15 + a)) b P z)) (nI t) (bI b') d = f_X10_table_205 k144 k157 f (nI k) (mkL P) v4 (nI j) (nI i) (nI a) (bI b) (mkL (fun z => decide (z < t + 1) && sX (tn (h (2 + k)) (h (5 + k))) (h (2 + k)) (h (15 + a)) b P z)) (nI (t + 1)) d := by
          intro b' hb'
          unfold f_X10_table_246
          rw [nI_1]
          by_cases c2 : b' = b
          · have ex : sX (tn (h (2 + k)) (h (5 + k))) (h (2 + k)) (h (15 + a)) b P t = true := by unfold sX; rw [c1, ← hb', c2]; cases b <;> rfl
            rw [if_pos (by rw [c2]), bd_e, mk_g1 (by omega) ex]
          · have ex : sX (tn (h (2 + k)) (h (5 + k))) (h (2 + k)) (h (15 + a)) b P t = false := by
              unfold sX
              rw [c1, Bool.true_and, ← hb']
              exact beq_eq_false_iff_ne.mpr c2
            rw [if_neg (fun z => c2 ((bI_e _ _).mp z)), mk_g0 ex]
        by_cases c2 : ao (tn (h (2 + k)) (h (5 + k))) (h (2 + k)) (h (15 + a)) P t = true
        · rw [if_pos ((ao_1 (by omega)).mpr c2)]
          exact (w true c2.symm).trans s
        · rw [if_neg (fun z => c2 ((ao_1 (by omega)).mp z))]
          rw [Bool.not_eq_true] at c2
          exact (w false c2.symm).trans s
      · have ex : sX (tn (h (2 + k)) (h (5 + k))) (h (2 + k)) (h (15 + a)) b P t = false := by unfold sX; rw [Bool.not_eq_true] at c1; rw [c1, Bool.false_and]
        rw [if_neg (fun z => c1 (hb.mp z)), mk_g0 ex]
        exact s
theorem m157 {h : Nat → Nat} {sp : Nat → Nat} {n k : Nat} {d0 : DD} (V : VH h) (M : HM d0 h) (sz : d0.1 86 3 = nI n) (hk : k < h 0) (hT : 1 ≤ h (8 + k)) (hn : n ≤ 4) (W : ∀ i, i < n → sp i < h 1) {r : Nat} (hr : r < 37) (v4 : Int64) (k144 : Int32 → Int64 → Int64 → Int32 → DD → Option (Int32 × DD)) (Q : Int32 → DD → Prop) (K : ∀ d, MTB (tn (h (2 + k)) (h (5 + k))) (h (2 + k)) (h (8 + k) - 1) (fun i => h (15 + sp i)) sp n d0 ((r + 1) * n) d → OW (k144 (nI k) (mkL (PQ (tn (h (2 + k)) (h (5 + k))) (h (2 + k)) (h (8 + k) - 1) (fun i => h (15 + sp i)) n ((r + 1) * n))) v4 (nI ((r + 1) * n)) d) Q) : ∀ (m i f : Nat) (d : DD), i + m = n → m < f → MTB (tn (h (2 + k)) (h (5 + k))) (h (2 + k)) (h (8 + k) - 1) (fun i => h (15 + sp i)) sp n d0 (r * n + i) d → OW (f_X10_table_157 k144 f (nI k) (mkL (PQ (tn (h (2 + k)) (h (5 + k))) (h (2 + k)) (h (8 + k) - 1) (fun i => h (15 + sp i)) n (r * n + i))) v4 (nI (r * n + i)) (nI i) d) Q := by
  have v0 := V.1
  have v1 := V.2.1
  have v := V.2.2.1 k hk
  have tle := tn_le (lo := h (2 + k)) v.2.2.1
  intro m
  induction m with
  | zero =>
    intro i f d hi hf I
    cases f with
    | zero => omega
    | succ f =>
      show OW (f_X10_table_157B k144 (f_X10_table_157 k144 f) _ _ _ _ _ _) Q
      unfold f_X10_table_157B
      have e : i = n := by omega
      subst e
      have szd : d.1 86 3 = nI i := by rw [(I.1 86 (by decide)).1]; exact sz
      rw [← Nat.succ_mul] at I ⊢
      rw [szd, if_neg (by rw [nI_ltI (by omega) (by omega)]; omega)]
      exact K d I
  | succ m ih =>
    intro i f d hi hf I
    cases f with
    | zero => omega
    | succ f =>
      show OW (f_X10_table_157B k144 (f_X10_table_157 k144 f) _ _ _ _ _ _) Q
      unfold f_X10_table_157B
      have hi' : i < n := by omega
      have wi := W i hi'
      have rm := rn_mod (r := r) hi'
      have jm : r * n ≤ 36 * n := Nat.mul_le_mul_right n (by omega)
      have szd : d.1 86 3 = nI n := by rw [(I.1 86 (by decide)).1]; exact sz
      have Md : HM d h := hm_fr M I.1 (by decide) (by decide) (by decide)
      have nx := mtb_s I
      have s := ih (i + 1) f _ (by omega) (by omega) nx
      have i104 : ixb (nI i) (ln 104) := (ix_nI (by omega)).mpr (by rw [ln_104]; omega)
      have st : ∀ b : Bool, b = SY (tn (h (2 + k)) (h (5 + k))) (h (2 + k)) (h (8 + k) - 1) (fun i => h (15 + sp i)) n (r * n + i) → OW (f_X10_table_205 k144 (f_X10_table_157 k144 f) FU (nI k) (mkL (PQ (tn (h (2 + k)) (h (5 + k))) (h (2 + k)) (h (8 + k) - 1) (fun i => h (15 + sp i)) n (r * n + i))) v4 (nI (r * n + i)) (nI i) (nI (sp i)) (bI b) (0 : Int64) (0 : Int32) d) Q := by
        intro b hb
        have q := m205 (P := PQ (tn (h (2 + k)) (h (5 + k))) (h (2 + k)) (h (8 + k) - 1) (fun i => h (15 + sp i)) n (r * n + i)) V Md (i := i) b hk wi (show r * n + i < 400 by omega) v4 k144 (f_X10_table_157 k144 f) (tn (h (2 + k)) (h (5 + k))) 0 FU (by omega) (by unfold FU; omega)
        rw [← mkL_st0] at q
        rw [← hb] at s
        have e2 : (fun z => decide (z < tn (h (2 + k)) (h (5 + k))) && sX (tn (h (2 + k)) (h (5 + k))) (h (2 + k)) (h (15 + sp i)) b (PQ (tn (h (2 + k)) (h (5 + k))) (h (2 + k)) (h (8 + k) - 1) (fun i => h (15 + sp i)) n (r * n + i)) z) = PQ (tn (h (2 + k)) (h (5 + k))) (h (2 + k)) (h (8 + k) - 1) (fun i => h (15 + sp i)) n (r * n + (i + 1)) := by
          show _ = stp (tn (h (2 + k)) (h (5 + k))) (h (2 + k)) (h (15 + sp ((r * n + i) % n))) (h (8 + k) - 1) (PQ (tn (h (2 + k)) (h (5 + k))) (h (2 + k)) (h (8 + k) - 1) (fun i => h (15 + sp i)) n (r * n + i))
          unfold stp
          unfold SY at hb
          rw [rm] at hb ⊢
          rw [← hb]
        rw [e2] at q
        exact (congrArg (fun o => OW o Q) q).mpr s
      rw [szd, if_pos (by rw [nI_ltI (by omega) (by omega)]; exact hi'), if_pos i104, nI_clamp (show i < 2 ^ 31 by omega), I.2.1 i hi', bd_e, e_X10_truly Md (by omega), ob_e, pI_pos (by omega)]
      dsimp only
      rw [e_alike V Md _ hk wi (show h (8 + k) - 1 < tn (h (2 + k)) (h (5 + k)) by omega), ob_e]
      dsimp only
      have sye : SY (tn (h (2 + k)) (h (5 + k))) (h (2 + k)) (h (8 + k) - 1) (fun i => h (15 + sp i)) n (r * n + i) = ao (tn (h (2 + k)) (h (5 + k))) (h (2 + k)) (h (15 + sp i)) (PQ (tn (h (2 + k)) (h (5 + k))) (h (2 + k)) (h (8 + k) - 1) (fun i => h (15 + sp i)) n (r * n + i)) (h (8 + k) - 1) := by
        unfold SY
        rw [rm]
      by_cases c : SY (tn (h (2 + k)) (h (5 + k))) (h (2 + k)) (h (8 + k) - 1) (fun i => h (15 + sp i)) n (r * n + i) = true
      · rw [if_pos ((ao_1 (by omega)).mpr (by rw [← sye]; exact c))]
        exact st true c.symm
      · rw [if_neg (fun z => c (by rw [sye]; exact (ao_1 (by omega)).mp z))]
        rw [Bool.not_eq_true] at c
        exact st false c.symm
theorem m144 {h : Nat → Nat} {sp : Nat → Nat} {n k : Nat} {d0 : DD} (V : VH h) (M : HM d0 h) (sz : d0.1 86 3 = nI n) (hk : k < h 0) (hT : 1 ≤ h (8 + k)) (hn : n ≤ 4) (W : ∀ i, i < n → sp i < h 1) {R : Nat} (hR : R < 37) (sR : stq (tn (h (2 + k)) (h (5 + k))) (h (2 + k)) (h (8 + k) - 1) (fun i => h (15 + sp i)) n R) (nR : ∀ r, r < R → ¬ stq (tn (h (2 + k)) (h (5 + k))) (h (2 + k)) (h (8 + k) - 1) (fun i => h (15 + sp i)) n r) (Q : Int32 → DD → Prop) (K : ∀ d f, MTB (tn (h (2 + k)) (h (5 + k))) (h (2 + k)) (h (8 + k) - 1) (fun i => h (15 + sp i)) sp n d0 ((R + 1) * n) d → OW (f_X10_table_144 (f + 1) (nI k) (mkL (PQ (tn (h (2 + k)) (h (5 + k))) (h (2 + k)) (h (8 + k) - 1) (fun i => h (15 + sp i)) n ((R + 1) * n))) (mkL (PQ (tn (h (2 + k)) (h (5 + k))) (h (2 + k)) (h (8 + k) - 1) (fun i => h (15 + sp i)) n ((R + 1) * n))) (nI ((R + 1) * n)) d) Q) : ∀ (m r f : Nat) (d : DD) (v4 : Int64), r + m = R → m + 1 < f → ¬ mkL (PQ (tn (h (2 + k)) (h (5 + k))) (h (2 + k)) (h (8 + k) - 1) (fun i => h (15 + sp i)) n (r * n)) = v4 → MTB (tn (h (2 + k)) (h (5 + k))) (h (2 + k)) (h (8 + k) - 1) (fun i => h (15 + sp i)) sp n d0 (r * n) d → OW (f_X10_table_144 f (nI k) (mkL (PQ (tn (h (2 + k)) (h (5 + k))) (h (2 + k)) (h (8 + k) - 1) (fun i => h (15 + sp i)) n (r * n))) v4 (nI (r * n)) d) Q := by
  intro m
  induction m with
  | zero =>
    intro r f d v4 hr hf hv I
    obtain ⟨f, rfl⟩ : ∃ f', f = f' + 2 := ⟨f - 2, by omega⟩
    show OW (f_X10_table_144B (f_X10_table_144 (f + 1)) _ _ _ _ _) Q
    unfold f_X10_table_144B
    have e : r = R := by omega
    subst e
    rw [if_neg hv]
    refine m157 V M sz hk hT hn W hR _ _ Q (fun d' I' => ?_) n 0 FU d (by omega) (by unfold FU; omega) I
    have q := K d' f I'
    unfold stq at sR
    rw [sR] at q ⊢
    exact q
  | succ m ih =>
    intro r f d v4 hr hf hv I
    obtain ⟨f, rfl⟩ : ∃ f', f = f' + 1 := ⟨f - 1, by omega⟩
    show OW (f_X10_table_144B (f_X10_table_144 f) _ _ _ _ _) Q
    unfold f_X10_table_144B
    rw [if_neg hv]
    refine m157 V M sz hk hT hn W (by omega) _ _ Q (fun d' I' => ?_) n 0 FU d (by omega) (by unfold FU; omega) I
    exact ih (r + 1) f d' _ (by omega) (by omega) (nR r (by omega)) I'
theorem m324 {h : Nat → Nat} {sp : Nat → Nat} {n k j : Nat} {P : Nat → Bool} (V : VH h) (hk : k < h 0) (hT : 1 ≤ h (8 + k)) (hn : n ≤ 4) (W : ∀ i, i < n → sp i < h 1) : ∀ (m i f : Nat) (d : DD), i + m = n → m < f → HM d h → d.1 86 3 = nI n → (∀ i, i < n → d.1 104 i = nI (sp i)) → d.1 106 1 = nI (KN (tn (h (2 + k)) (h (5 + k))) (h (2 + k)) (h (8 + k) - 1) (fun i => h (15 + sp i)) sp P i) → OW (f_X10_table_324 f (nI k) (mkL P) (nI j) (nI i) d) (fun r d' => r = nI j ∧ FR [86, 106] d d' ∧ d'.1 86 36 = 1 ∧ (∀ q, q ≠ 36 → d'.1 86 q = d.1 86 q) ∧ d'.1 106 0 = d.1 106 0 ∧ d'.1 106 1 = nI (KN (tn (h (2 + k)) (h (5 + k))) (h (2 + k)) (h (8 + k) - 1) (fun i => h (15 + sp i)) sp P n)) := by
  have v0 := V.1
  have v1 := V.2.1
  have v := V.2.2.1 k hk
  have tle := tn_le (lo := h (2 + k)) v.2.2.1
  have i106 : ixb (1 : Int32) (ln 106) := (ix_nI (n := 1) (by omega)).mpr (by rw [ln_106]; omega)
  intro m
  induction m with
  | zero =>
    intro i f d hi hf M sz h104 h106
    cases f with
    | zero => omega
    | succ f =>
      show OW (f_X10_table_324B (f_X10_table_324 f) _ _ _ _ _) _
      unfold f_X10_table_324B
      have e : i = n := by omega
      subst e
      rw [sz, if_neg (by rw [nI_ltI (by omega) (by omega)]; omega), bd_e]
      refine ow_ret ⟨rfl, fr_u1 (fr_refl _ _) (by decide), by rw [u1_at, if_pos ⟨rfl, rfl⟩], fun q hq => by rw [u1_at, if_neg (by omega)], by rw [u1_at, if_neg (by omega)], by rw [u1_at, if_neg (by omega)]; exact h106⟩
  | succ m ih =>
    intro i f d hi hf M sz h104 h106
    cases f with
    | zero => omega
    | succ f =>
      show OW (f_X10_table_324B (f_X10_table_324 f) _ _ _ _ _) _
      unfold f_X10_table_324B
      have hi' : i < n := by omega
      have wi := W i hi'
      have i104 : ixb (nI i) (ln 104) := (ix_nI (by omega)).mpr (by rw [ln_104]; omega)
      have r104 : d.1 104 (nI i).toNatClampNeg = nI (sp i) := by rw [nI_clamp (show i < 2 ^ 31 by omega)]; exact h104 i hi'
      have ke : KN (tn (h (2 + k)) (h (5 + k))) (h (2 + k)) (h (8 + k) - 1) (fun i => h (15 + sp i)) sp P (i + 1) = if ao (tn (h (2 + k)) (h (5 + k))) (h (2 + k)) (h (15 + sp i)) P (h (8 + k) - 1) = true then KN (tn (h (2 + k)) (h (5 + k))) (h (2 + k)) (h (8 + k) - 1) (fun i => h (15 + sp i)) sp P i ||| 2 ^ sp i else KN (tn (h (2 + k)) (h (5 + k))) (h (2 + k)) (h (8 + k) - 1) (fun i => h (15 + sp i)) sp P i := rfl
      have nxt : ∀ x : Nat, x = KN (tn (h (2 + k)) (h (5 + k))) (h (2 + k)) (h (8 + k) - 1) (fun i => h (15 + sp i)) sp P (i + 1) → OW (f_X10_table_324 f (nI k) (mkL P) (nI j) (nI (i + 1)) (u1 d 106 1 (nI x))) (fun r d' => r = nI j ∧ FR [86, 106] d d' ∧ d'.1 86 36 = 1 ∧ (∀ q, q ≠ 36 → d'.1 86 q = d.1 86 q) ∧ d'.1 106 0 = d.1 106 0 ∧ d'.1 106 1 = nI (KN (tn (h (2 + k)) (h (5 + k))) (h (2 + k)) (h (8 + k) - 1) (fun i => h (15 + sp i)) sp P n)) := by
        intro x hx
        have F1 : FR [86, 106] d (u1 d 106 1 (nI x)) := fr_u1 (fr_refl _ _) (by decide)
        refine ow_mono (ih (i + 1) f (u1 d 106 1 (nI x)) (by omega) (by omega) (hm_fr M F1 (by decide) (by decide) (by decide)) (by rw [u1_at, if_neg (by omega)]; exact sz) (fun i hi => by rw [u1_at, if_neg (by omega)]; exact h104 i hi) (by rw [u1_at, if_pos ⟨rfl, rfl⟩, hx])) ?_
        rintro r d' ⟨a, b, c, e, g, l⟩
        refine ⟨a, fr_trans F1 b, c, fun q hq => ?_, ?_, l⟩
        · rw [e q hq, u1_at, if_neg (by omega)]
        · rw [g, u1_at, if_neg (by omega)]
      rw [sz, if_pos (by rw [nI_ltI (by omega) (by omega)]; exact hi'), if_pos i106, if_pos i104, r104, e_X10_truly M (by omega), ob_e, pI_pos (by omega)]
      dsimp only
      rw [e_alike V M _ hk wi (show h (8 + k) - 1 < tn (h (2 + k)) (h (5 + k)) by omega), ob_e]
      dsimp only
      rw [show d.1 106 (1 : Int32).toNatClampNeg = _ from h106, nI_1]
      by_cases c : ao (tn (h (2 + k)) (h (5 + k))) (h (2 + k)) (h (15 + sp i)) P (h (8 + k) - 1) = true
      · rw [if_pos c] at ke
        rw [if_pos ((ao_1 (by omega)).mpr c), if_pos i104, if_pos i106, bd_e, r104, show (1 : Int32) <<< (nI (sp i) &&& 31) = nI (2 ^ sp i) from q_shl (by omega), nx_or]
        exact nxt _ ke.symm
      · rw [if_neg c] at ke
        rw [if_neg (fun z => c ((ao_1 (by omega)).mp z)), if_pos i106, bd_e, or_z]
        exact nxt _ ke.symm
def MQT (N lo tr : Nat) (L sp : Nat → Nat) (n R : Nat) (d0 : DD) (r : Int32) (d : DD) : Prop := r = nI ((R + 1) * n) ∧ FR [86, 104, 105, 106] d0 d ∧ (∀ q, q ≠ 35 → q ≠ 36 → d.1 86 q = d0.1 86 q) ∧ d.1 86 35 = nI ((R + 1) * n) ∧ d.1 86 36 = 1 ∧ d.1 106 0 = nI (cnt 64 (PQ N lo tr L n ((R + 1) * n))) ∧ d.1 106 1 = nI (KN N lo tr L sp (PQ N lo tr L n ((R + 1) * n)) n) ∧ ∀ q, q < (R + 1) * n → d.1 105 q = bI (SY N lo tr L n q)
theorem mEnd {h : Nat → Nat} {sp : Nat → Nat} {n k R f : Nat} {d0 d : DD} (V : VH h) (M : HM d0 h) (sz : d0.1 86 3 = nI n) (hk : k < h 0) (hT : 1 ≤ h (8 + k)) (hn : n ≤ 4) (W : ∀ i, i < n → sp i < h 1) (I : MTB (tn (h (2 + k)) (h (5 + k))) (h (2 + k)) (h (8 + k) - 1) (fun i => h (15 + sp i)) sp n d0 ((R + 1) * n) d) : OW (f_X10_table_144 (f + 1) (nI k) (mkL (PQ (tn (h (2 + k)) (h (5 + k))) (h (2 + k)) (h (8 + k) - 1) (fun i => h (15 + sp i)) n ((R + 1) * n))) (mkL (PQ (tn (h (2 + k)) (h (5 + k))) (h (2 + k)) (h (8 + k) - 1) (fun i => h (15 + sp i)) n ((R + 1) * n))) (nI ((R + 1) * n)) d) (MQT (tn (h (2 + k)) (h (5 + k))) (h (2 + k)) (h (8 + k) - 1) (fun i => h (15 + sp i)) sp n R d0) := by
  have i0 : ixb (0 : Int32) (ln 106) := (ix_nI (n := 0) (by omega)).mpr (by rw [ln_106]; omega)
  have i1 : ixb (1 : Int32) (ln 106) := (ix_nI (n := 1) (by omega)).mpr (by rw [ln_106]; omega)
  show OW (f_X10_table_144B (f_X10_table_144 f) _ _ _ _ _) _
  unfold f_X10_table_144B
  rw [if_pos rfl, bd_e, e_X10_bitsm, ob_e]
  dsimp only
  rw [if_pos i0, bd_e, if_pos i1, bd_e, show (0 : Int32).toNatClampNeg = 0 from rfl, show (1 : Int32).toNatClampNeg = 1 from rfl]
  have F1 : FR [86, 106] d (u1 (u1 (u1 d 86 35 (nI ((R + 1) * n))) 106 0 (nI (cnt 64 (PQ (tn (h (2 + k)) (h (5 + k))) (h (2 + k)) (h (8 + k) - 1) (fun i => h (15 + sp i)) n ((R + 1) * n))))) 106 1 0) := fr_u1 (fr_u1 (fr_u1 (fr_refl _ _) (by decide)) (by decide)) (by decide)
  have Md : HM d h := hm_fr M I.1 (by decide) (by decide) (by decide)
  refine ow_mono (m324 V hk hT hn W n 0 FU _ (by omega) (by unfold FU; omega) (hm_fr Md F1 (by decide) (by decide) (by decide)) ?_ (fun i hi => ?_) ?_) ?_
  · rw [u1_at, if_neg (by omega), u1_at, if_neg (by omega), u1_at, if_neg (by omega), (I.1 86 (by decide)).1]; exact sz
  · rw [u1_at, if_neg (by omega), u1_at, if_neg (by omega), u1_at, if_neg (by omega)]; exact I.2.1 i hi
  · rw [u1_at, if_pos ⟨rfl, rfl⟩]; rfl
  · rintro r d' ⟨a, b, c, e, g, l⟩
    have F2 := fr_trans F1 b
    refine ⟨a, fr_trans (fr_mono I.1 (by decide)) (fr_mono F2 (by decide)), fun q q1 q2 => ?_, ?_, c, ?_, l, fun q hq => ?_⟩
    · rw [e q q2, u1_at, if_neg (by omega), u1_at, if_neg (by omega), u1_at, if_neg (by omega), (I.1 86 (by decide)).1]
    · rw [e 35 (by decide), u1_at, if_neg (by omega), u1_at, if_neg (by omega), u1_at, if_pos ⟨rfl, rfl⟩]
    · rw [g, u1_at, if_neg (by omega), u1_at, if_pos ⟨rfl, rfl⟩]
    · rw [(F2 105 (by decide)).1]; exact I.2.2 q hq
