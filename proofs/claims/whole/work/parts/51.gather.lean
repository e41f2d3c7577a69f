-- PURE ROWS: the class gathers
theorem tt_pos {h : Nat → Nat} (V : VH h) {k : Nat} (hk : k < h 0) : 1 ≤ TT h k := by
  have v := V.2.2.1 k hk
  unfold TT tn
  have h1 := fo_mono (h (2 + k)) (p := h (2 + k) + 1) (q := h (5 + k) + 1) (by omega)
  have h2 : fo (h (2 + k)) (h (2 + k) + 1) = fo (h (2 + k)) (h (2 + k)) + (if h (2 + k) ≤ h (2 + k) then h (2 + k) else 0) := rfl
  rw [if_pos (Nat.le_refl _)] at h2
  omega
theorem l1_mk : lN 1 = mkL (fun t => decide (t = 0)) := mk_ext (fun i hi => (by decide +kernel : ∀ i, i < 64 → bl (lN 1) i = decide (i = 0)) i hi)
def b0 (h : Nat → Nat) : (Nat → Nat) × (Nat → Nat → Bool) := (fun _ => 0, fun k t => if k < h 0 then decide (t < TT h k) else decide (t = 0))
theorem sb21 {h nm} {d0 : DD} (V : VH h) (H : HC 2 d0 h nm) : ∀ (m k f : Nat) (d : DD), k + m = 3 → m < f → FR [77] d0 d → (∀ j, j < k → d.2 77 j = mkL ((b0 h).2 j)) → OW (f_X8_startBranches_21 f (nI k) d) (fun _ d' => FR [77] d0 d' ∧ ∀ j, j < 3 → d'.2 77 j = mkL ((b0 h).2 j)) := by
  have v0 := V.1
  intro m
  induction m with
  | zero =>
    intro k f d hi hf F G
    cases f with
    | zero => omega
    | succ f =>
      show OW (f_X8_startBranches_21B (f_X8_startBranches_21 f) _ _) _
      unfold f_X8_startBranches_21B
      rw [if_neg (by rw [nI_lit, nI_ltI (by omega) (by omega)]; omega)]
      exact ow_ret ⟨F, fun j hj => G j (by omega)⟩
  | succ m ih =>
    intro k f d hi hf F G
    cases f with
    | zero => omega
    | succ f =>
      show OW (f_X8_startBranches_21B (f_X8_startBranches_21 f) _ _) _
      unfold f_X8_startBranches_21B
      have H' := hc_fr H F (by decide)
      have fin : ∀ x, x = mkL ((b0 h).2 k) → OW (f_X8_startBranches_21 f (nI (k + 1)) (u2 d 77 k x)) (fun _ d' => FR [77] d0 d' ∧ ∀ j, j < 3 → d'.2 77 j = mkL ((b0 h).2 j)) := by
        intro x hx
        refine ih (k + 1) f _ (by omega) (by omega) (fr_u2 F (by decide)) (fun j hj => ?_)
        rw [u2_at]
        by_cases e : j = k
        · rw [if_pos ⟨rfl, e⟩, hx, e]
        · rw [if_neg (by omega)]
          exact G j (by omega)
      rw [if_pos (by rw [nI_lit, nI_ltI (by omega) (by omega)]; omega), hc_k H']
      by_cases c : k < h 0
      · rw [if_pos (by rw [nI_ltI (by omega) (by omega)]; exact c)]
        unfold f_X8_startBranches_42
        have tl := tt_le V c
        rw [if_neg (by decide), e_X1_timetablesOf hb_2 V H' c, ob_e, e_X9_putLong, ob_e, nI_1, wr2_in (by rw [ln_77]; omega)]
        refine fin _ ?_
        show lN 1 <<< ((nI (TT h k)).toInt64 &&& lN 63) - lN 1 = _
        rw [mk_full (by omega)]
        apply mk_congr
        intro t _
        show _ = (if k < h 0 then decide (t < TT h k) else decide (t = 0))
        rw [if_pos c]
      · rw [if_neg (by rw [nI_ltI (by omega) (by omega)]; exact c)]
        unfold f_X8_startBranches_42
        rw [if_pos rfl, e_X9_putLong, ob_e, nI_1, wr2_in (by rw [ln_77]; omega)]
        refine fin _ ?_
        show lN 1 = _
        rw [l1_mk]
        apply mk_congr
        intro t _
        show _ = (if k < h 0 then decide (t < TT h k) else decide (t = 0))
        rw [if_neg c]
def LV (h : Nat → Nat) (n A : Nat) (d : DD) : Prop := ∃ first L, BR d first A L ∧ d.1 72 5 = nI first ∧ d.1 72 6 = nI (first + L.length) ∧ LI h n A L ∧ L.length ≤ 5 ^ A ∧ 4 * first + 1 ≤ 5 ^ A
theorem e_startBranches {h nm} {d : DD} (V : VH h) (H : HC 2 d h nm) {n : Nat} : OW (f_X8_startBranches d) (fun _ d' => FR [72, 76, 77] d d' ∧ LV h n 0 d') := by
  unfold f_X8_startBranches
  rw [bd_e, bd_e, e_X9_put, ob_e, show (0 : Int32) = nI 0 from rfl, wr1_in (by rw [ln_76]; decide)]
  have F1 : FR [72, 76, 77] d (u1 (u1 (u1 d 72 5 (nI 0)) 72 6 1) 76 0 (nI 0)) := fr_u1 (fr_u1 (fr_u1 (fr_refl _ _) (by decide)) (by decide)) (by decide)
  refine ow_mono (sb21 V (hc_fr H F1 (by decide)) 3 0 FU _ (by omega) (by unfold FU; omega) (fr_refl _ _) (fun j hj => by omega)) ?_
  intro _ d' H'
  refine ⟨fr_trans F1 (fr_mono H'.1 (by decide)), 0, [b0 h], ?_, ?_, ?_, ⟨?_, ?_, ?_⟩, Nat.le_refl _, by decide⟩
  · intro i b e
    have hi := getsome e
    have : i = 0 := by
      rw [List.length_singleton] at hi
      omega
    subst this
    have e' : some (b0 h) = some b := e
    injection e' with e'
    subst e'
    refine ⟨?_, fun k hk => ?_⟩
    · rw [(H'.1 76 (by decide)).1, u1_at, if_pos ⟨rfl, rfl⟩]
      rfl
    · rw [show 3 * (0 + 0) + k = k by omega]
      exact H'.2 k hk
  · rw [(H'.1 72 (by decide)).1, u1_at, if_neg (by omega), u1_at, if_neg (by omega), u1_at, if_pos ⟨rfl, rfl⟩]
  · rw [(H'.1 72 (by decide)).1, u1_at, if_neg (by omega), u1_at, if_pos ⟨rfl, rfl⟩]
    rfl
  · intro b hb a
    rw [List.mem_singleton] at hb
    subst hb
    exact Nat.two_pow_pos 8
  · intro G _
    rfl
  · intro b hb
    rw [List.mem_singleton] at hb
    subst hb
    refine ⟨?_, ?_, ?_, fun a ha => by omega⟩
    · intro c _ k hk t _
      show (if k < h 0 then decide (t < TT h k) else decide (t = 0)) = (decide (t < TT h k) && true)
      rw [if_pos hk, Bool.and_true]
    · intro k hk _ t _
      show (if k < h 0 then decide (t < TT h k) else decide (t = 0)) = _
      rw [if_neg (by omega)]
    · intro k _
      refine ⟨0, by omega, ?_⟩
      show (if k < h 0 then decide (0 < TT h k) else decide (0 = 0)) = true
      by_cases c : k < h 0
      · rw [if_pos c]
        have := tt_pos V c
        rw [decide_eq_true (by omega)]
      · rw [if_neg c]
        rfl
theorem nl_len {h : Nat → Nat} (V : VH h) {n A : Nat} (hA : A < h 1) {C : List (Nat × (Nat → Nat → Bool))} (J : CI h n A 8 C) : ∀ (L : List ((Nat → Nat) × (Nat → Nat → Bool))), (nl A C L).length ≤ L.length * 5 := by
  intro L
  exact flat_len _ 5 (fun b => five V hA J b) L
theorem ga40 {h nm} {d0 : DD} (V : VH h) (H : HC 2 d0 h nm) {n : Nat} (G : FD h n d0) : ∀ (m a f : Nat) (d : DD), a + m = h 1 → m < f → FR [72, 74, 75, 76, 77] d0 d → LV h n a d → OW (f_X8_gather_40 f (nI a) d) (fun _ d' => FR [72, 74, 75, 76, 77] d0 d' ∧ LV h n (h 1) d') := by
  have v1 := V.2.1
  intro m
  induction m with
  | zero =>
    intro a f d hi hf F I
    cases f with
    | zero => omega
    | succ f =>
      show OW (f_X8_gather_40B (f_X8_gather_40 f) _ _) _
      unfold f_X8_gather_40B
      have e : a = h 1 := by omega
      subst e
      rw [hc_p (hc_fr H F (by decide)), if_neg (by rw [nI_ltI (by omega) (by omega)]; omega)]
      exact ow_ret ⟨F, I⟩
  | succ m ih =>
    intro a f d hi hf F I
    cases f with
    | zero => omega
    | succ f =>
      show OW (f_X8_gather_40B (f_X8_gather_40 f) _ _) _
      unfold f_X8_gather_40B
      have ha : a < h 1 := by omega
      have H' := hc_fr H F (by decide)
      have G' : FD h n d := fun a' m' k' x y z => by rw [(F 73 (by decide)).2]; exact G a' m' k' x y z
      rw [hc_p H', if_pos (by rw [nI_ltI (by omega) (by omega)]; omega)]
      obtain ⟨first, L, i1, i2, i3, i4, i5, i6⟩ := I
      refine ow_call (e_findChoices V H' G' ha) ?_
      intro _ d1 H1
      obtain ⟨F1, F7', C, cC, cI⟩ := H1
      have ln := nl_len V ha cI L
      have p5 : 5 ^ a ≤ 5 ^ 3 := Nat.pow_le_pow_right (by decide) (by omega)
      refine ow_call (e_branchOut (A := a) (first := first) (C := C) (L := L) (by omega) i4.1 cI.1 (fun c hc => (cI.2.2.1 c hc).1) cC (by omega) (by rw [F7' 5 (by decide)]; exact i2) (by rw [F7' 6 (by decide)]; exact i3) ?_) ?_
      · intro i b e
        rw [(F1 76 (by decide)).1, (F1 77 (by decide)).2]
        exact i1 i b e
      · intro _ d2 H2
        obtain ⟨F2, _, j1, j2, j3⟩ := H2
        rw [nI_1]
        refine ih (a + 1) f d2 (by omega) (by omega) (fr_trans F (fr_trans (fr_mono F1 (by decide)) (fr_mono F2 (by decide)))) ⟨first + L.length, nl a C L, j1, j2, j3, li_step V ha i4 cI, ?_, ?_⟩
        · rw [Nat.pow_succ]
          exact Nat.le_trans ln (Nat.mul_le_mul_right 5 i5)
        · rw [Nat.pow_succ]
          omega
def GD (h : Nat → Nat) (n : Nat) (d : DD) : Prop := ∃ first L, BR d first (h 1) L ∧ d.1 72 5 = nI first ∧ d.1 72 6 = nI (first + L.length) ∧ LI h n (h 1) L ∧ first + L.length ≤ 781
theorem e_gather {h nm} {d : DD} (V : VH h) (H : HC 2 d h nm) {n : Nat} (hn : n ≤ h 169) : OW (f_X8_gather (nI n) d) (fun _ d' => FR [72, 73, 74, 75, 76, 77] d d' ∧ GD h n d') := by
  have v1 := V.2.1
  refine e_X8_gather0 V H hn _ ?_
  intro d1 F1 G1
  unfold f_X8_gather_34
  have H1 := hc_fr H F1 (by decide)
  refine ow_call (e_startBranches V H1 (n := n)) ?_
  intro _ d2 H2
  refine ow_mono (ga40 V (hc_fr H1 H2.1 (by decide)) (n := n) (fun a' m' k' x y z => by rw [(H2.1 73 (by decide)).2]; exact G1 a' m' k' x y z) (h 1) 0 FU d2 (by omega) (by unfold FU; omega) (fr_refl _ _) H2.2) ?_
  intro _ d3 H3
  obtain ⟨F3, first, L, i1, i2, i3, i4, i5, i6⟩ := H3
  have p5 : 5 ^ h 1 ≤ 5 ^ 4 := Nat.pow_le_pow_right (by decide) v1
  exact ⟨fr_trans (fr_mono F1 (by decide)) (fr_trans (fr_mono H2.1 (by decide)) (fr_mono F3 (by decide))), first, L, i1, i2, i3, i4, by omega⟩
theorem e_gatherAll {h nm} {d : DD} (V : VH h) (H : HC 2 d h nm) : OW (f_X8_gatherAll d) (fun _ d' => FR [72, 73, 74, 75, 76, 77] d d' ∧ GD h (h 169) d') := by
  have s := hc_sz H
  rw [rf_2_11] at s
  unfold f_X8_gatherAll
  rw [s]
  refine ow_call (e_gather V H (Nat.le_refl _)) ?_
  intro _ d' H'
  exact ow_ret H'
