-- PURE ROWS: what would be told: class and model
theorem sp10 {h nm} {d0 : DD} (V : VH h) (H : HC 2 d0 h nm) {u : Nat} (hu : u < 30) (v1 : Int32) (Q : Unit → DD → Prop) (K : ∀ d, FR [79, 80] d0 d → P8 h u d → OW (f_X8_spread_68 FU v1 (d.1 72 5) d) Q) : ∀ (m k f : Nat) (d : DD), k + m = h 0 → m < f → FR [79, 80] d0 d → (∀ j, j < k → d.2 79 j = mkL (Fw h u 0 j) ∧ d.2 80 j = mkL (Fw h u 1 j)) → OW (f_X8_spread_10 f v1 (nI u) (nI k) d) Q := by
  have v0 := V.1
  intro m
  induction m with
  | zero =>
    intro k f d hi hf F G
    cases f with
    | zero => omega
    | succ f =>
      show OW (f_X8_spread_10B (f_X8_spread_10 f) _ _ _ _) Q
      unfold f_X8_spread_10B
      rw [hc_k (hc_fr H F (by decide)), if_neg (by rw [nI_ltI (by omega) (by omega)]; omega), bd_e]
      exact K d F (fun j hj => G j (by omega))
  | succ m ih =>
    intro k f d hi hf F G
    cases f with
    | zero => omega
    | succ f =>
      show OW (f_X8_spread_10B (f_X8_spread_10 f) _ _ _ _) Q
      unfold f_X8_spread_10B
      have hk : k < h 0 := by omega
      have H' := hc_fr H F (by decide)
      have F1 : FR [79, 80] d (u2 d 79 k (mkL (fun t => pb (h (2 + k)) (h (5 + k)) t u))) := fr_u2 (fr_refl _ _) (by decide)
      rw [hc_k H', if_pos (by rw [nI_ltI (by omega) (by omega)]; omega), e_X1_passing hb_2 V H' hk hu, ob_e, e_X9_putLong, ob_e, wr2_in (by rw [ln_79]; omega)]
      dsimp only
      rw [show nI u - 1 = pI u from rfl, e_passing_ahead hb_2 V (hc_fr H' F1 (by decide)) hk hu, ob_e, e_X9_putLong, ob_e, wr2_in (by rw [ln_80]; omega), nI_1]
      refine ih (k + 1) f _ (by omega) (by omega) (fr_u2 (fr_trans F F1) (by decide)) (fun j hj => ?_)
      rw [u2_at, u2_at, u2_at, u2_at]
      by_cases e : j = k
      · subst e
        rw [if_neg (by omega), if_pos ⟨rfl, rfl⟩, if_pos ⟨rfl, rfl⟩]
        exact ⟨rfl, rfl⟩
      · rw [if_neg (by omega), if_neg (by omega), if_neg (by omega), if_neg (by omega)]
        exact G j (by omega)
theorem e_spread {h nm} {d : DD} (V : VH h) (H : HC 2 d h nm) {first : Nat} {L : List ((Nat → Nat) × (Nat → Nat → Bool))} (X : GX h d first L) {a u : Nat} (ha : a < h 1) (hu : u < 30) : OW (f_X8_spread (nI a) (nI u) d) (fun _ d' => FR [79, 80, 81, 82] d d' ∧ ∀ j, j < 8 → d'.2 82 j = lN (SS h a u L j)) := by
  have v0 := V.1
  have X4 := X.2.2.2.1
  unfold f_X8_spread
  refine ow_call (e_fill2 _ _) ?_
  intro _ d1 H1
  have HH1 := hc_fr H H1.1 (by decide)
  refine sp10 (d0 := d1) V HH1 hu (nI a) _ ?_ (h 0) 0 FU d1 (by omega) (by unfold FU; omega) (fr_refl _ _) (fun j hj => by omega)
  intro d2 F2 P2
  have X2 := gx_fr (gx_fr X H1.1 (by decide) (by decide) (by decide)) F2 (by decide) (by decide) (by decide)
  rw [X2.2.1]
  refine ow_mono (sp68 V (hc_fr HH1 F2 (by decide)) X2 ha P2 L.length 0 FU d2 (fun _ => 0) (by omega) (by unfold FU; omega) (fr_refl _ _) (fun j hj => ?_)) ?_
  · rw [(F2 82 (by decide)).2]
    exact H1.2 j (by rw [ln_82]; exact hj)
  · intro _ d3 H3
    refine ⟨fr_trans (fr_mono H1.1 (by decide)) (fr_trans (fr_mono F2 (by decide)) (fr_mono H3.1 (by decide))), fun j hj => ?_⟩
    rw [H3.2 j hj, List.drop_zero, Nat.zero_add]
-- the sets told
theorem ts_1 : ∀ K, K ≤ 3 → ∀ j, j < 2 ^ K → ∀ w, w < 2 → ∀ s, s < 2 ^ K → (tB w s = j ↔ s = j) := by decide +kernel
def tsh (j k s : Nat) : Bool := decide (tB (2 + 2 * k) s = j) == (!(j.testBit k) && (decide (s = j) || decide (s = j + 2 ^ k)))
def tsa (j k s : Nat) : Bool := decide (tB (3 + 2 * k) s = j) == (j.testBit k && (decide (s = j) || decide (s = j - 2 ^ k)))
def tsr (K j k : Nat) : Bool := if k < K then (if j.testBit k then decide (2 ^ k ≤ j) else decide (j + 2 ^ k < 2 ^ K)) else true
def tsi (j k i : Nat) : Bool := if j.testBit k then (j - 2 ^ k).testBit i == (j.testBit i && !(decide (i = k))) else (j + 2 ^ k).testBit i == (j.testBit i || decide (i = k))
theorem tsh_c : ∀ k, k < 3 → ∀ j, j < 8 → ∀ s, s < 8 → tsh j k s = true := by decide +kernel
theorem tsa_c : ∀ k, k < 3 → ∀ j, j < 8 → ∀ s, s < 8 → tsa j k s = true := by decide +kernel
theorem tsr_c : ∀ K, K < 4 → ∀ j, j < 2 ^ K → ∀ k, k < 3 → tsr K j k = true := by decide +kernel
theorem tsi_c : ∀ k, k < 3 → ∀ j, j < 8 → ∀ i, i < 3 → tsi j k i = true := by decide +kernel
theorem p28 {K : Nat} (hK : K ≤ 3) : 2 ^ K ≤ 8 := Nat.pow_le_pow_right (n := 2) (j := 3) (by decide) hK
theorem ts_h : ∀ K, K ≤ 3 → ∀ j, j < 2 ^ K → ∀ k, k < K → ∀ s, s < 2 ^ K → (tB (2 + 2 * k) s = j ↔ (j.testBit k = false ∧ (s = j ∨ s = j + 2 ^ k))) := by
  intro K hK j hj k hk s hs
  have p := p28 hK
  have c := tsh_c k (by omega) j (by omega) s (by omega)
  unfold tsh at c
  rw [beq_iff_eq] at c
  rw [← decide_eq_true_iff (p := tB (2 + 2 * k) s = j), c]
  simp
theorem ts_a : ∀ K, K ≤ 3 → ∀ j, j < 2 ^ K → ∀ k, k < K → ∀ s, s < 2 ^ K → (tB (3 + 2 * k) s = j ↔ (j.testBit k = true ∧ (s = j ∨ s = j - 2 ^ k))) := by
  intro K hK j hj k hk s hs
  have p := p28 hK
  have c := tsa_c k (by omega) j (by omega) s (by omega)
  unfold tsa at c
  rw [beq_iff_eq] at c
  rw [← decide_eq_true_iff (p := tB (3 + 2 * k) s = j), c]
  simp
theorem ts_r : ∀ K, K ≤ 3 → ∀ j, j < 2 ^ K → ∀ k, k < K → (j.testBit k = false → j + 2 ^ k < 2 ^ K) ∧ (j.testBit k = true → 2 ^ k ≤ j) ∧ ∀ i, i < 3 → (j.testBit k = false → (j + 2 ^ k).testBit i = (j.testBit i || decide (i = k))) ∧ (j.testBit k = true → (j - 2 ^ k).testBit i = (j.testBit i && !(decide (i = k)))) := by
  intro K hK j hj k hk
  have p := p28 hK
  have c := tsr_c K (by omega) j hj k (by omega)
  unfold tsr at c
  rw [if_pos hk] at c
  refine ⟨fun z => ?_, fun z => ?_, fun i hi => ⟨fun z => ?_, fun z => ?_⟩⟩
  · rw [z] at c
    exact of_decide_eq_true c
  · rw [z] at c
    exact of_decide_eq_true c
  · have c2 := tsi_c k (by omega) j (by omega) i hi
    unfold tsi at c2
    rw [z] at c2
    exact beq_iff_eq.mp c2
  · have c2 := tsi_c k (by omega) j (by omega) i hi
    unfold tsi at c2
    rw [z] at c2
    exact beq_iff_eq.mp c2
theorem ts_o : ∀ K, K ≤ 3 → ∀ w, w < 2 + 2 * K → ∀ s, s < 2 ^ K → tB w s < 2 ^ K := by decide +kernel
theorem ts_two {n a b : Nat} (ha : a < n) (hb : b < n) (hab : a ≠ b) (P : Nat → Nat) : cs n (fun s => if s = a ∨ s = b then P s else 0) = P a + P b := by
  have e : cs n (fun s => if s = a ∨ s = b then P s else 0) = cs n (fun s => (if s = a then P s else 0) + (if s = b then P s else 0)) := by
    apply cs_congr
    intro s _
    by_cases c1 : s = a
    · rw [if_pos (Or.inl c1), if_pos c1, if_neg (by omega), Nat.add_zero]
    · by_cases c2 : s = b
      · rw [if_pos (Or.inr c2), if_neg c1, if_pos c2, Nat.zero_add]
      · rw [if_neg (fun z => z.elim c1 c2), if_neg c1, if_neg c2]
  rw [e, cs_add, cs_one ha, cs_one hb]
def tz (y n : Nat → Nat) (w j k : Nat) : Nat := if 1 < w ∧ (w - 2) / 2 = k then (if decide (w % 2 = 1) = j.testBit k then y k + n k else 0) else yn y n j k
theorem ts_sum {K j w : Nat} (hK : K ≤ 3) (hj : j < 2 ^ K) (hw : w < 2 + 2 * K) (W : Nat) (y n : Nat → Nat) : ts K w j (QP W y n K) = W * pn (tz y n w j) K := by
  unfold ts
  by_cases c : w < 2
  · have e : cs (2 ^ K) (fun s => if tB w s = j then QP W y n K s else 0) = cs (2 ^ K) (fun s => if s = j then QP W y n K s else 0) := by
      apply cs_congr
      intro s hs
      have q := ts_1 K hK j hj w c s hs
      by_cases z : s = j
      · rw [if_pos (q.mpr z), if_pos z]
      · rw [if_neg (fun x => z (q.mp x)), if_neg z]
    rw [e, cs_one hj]
    unfold QP
    congr 1
    apply pn_congr
    intro k _
    unfold tz
    rw [if_neg (by omega)]
  · have hk : (w - 2) / 2 < K := by omega
    have key : ∀ s, (∀ i, i < K → i ≠ (w - 2) / 2 → s.testBit i = j.testBit i) → QP W y n K s = W * pn (fun i => if i = (w - 2) / 2 then 1 else yn y n j i) K * yn y n s ((w - 2) / 2) := by
      intro s hs
      unfold QP
      rw [Nat.mul_assoc, pn_mul hk]
      congr 1
      apply pn_congr
      intro i hi
      by_cases z : i = (w - 2) / 2
      · rw [if_pos z, z]
      · rw [if_neg z]
        unfold yn
        rw [hs i hi z]
    have tzp : pn (tz y n w j) K = pn (fun i => if i = (w - 2) / 2 then 1 else yn y n j i) K * (if decide (w % 2 = 1) = j.testBit ((w - 2) / 2) then y ((w - 2) / 2) + n ((w - 2) / 2) else 0) := by
      rw [pn_mul hk]
      apply pn_congr
      intro i _
      unfold tz
      by_cases z : i = (w - 2) / 2
      · rw [if_pos ⟨by omega, z.symm⟩, if_pos z, z]
      · rw [if_neg (fun x => z x.2.symm), if_neg z]
    have r := ts_r K hK j hj _ hk
    have p2 : 0 < 2 ^ ((w - 2) / 2) := Nat.two_pow_pos _
    by_cases ev : w % 2 = 0
    · have ew : w = 2 + 2 * ((w - 2) / 2) := by omega
      rw [tzp, decide_eq_false (p := w % 2 = 1) (by omega)]
      by_cases tb : j.testBit ((w - 2) / 2) = false
      · have e : cs (2 ^ K) (fun s => if tB w s = j then QP W y n K s else 0) = cs (2 ^ K) (fun s => if s = j ∨ s = j + 2 ^ ((w - 2) / 2) then QP W y n K s else 0) := by
          apply cs_congr
          intro s hs
          have q := ts_h K hK j hj _ hk s hs
          rw [← ew] at q
          by_cases z : s = j ∨ s = j + 2 ^ ((w - 2) / 2)
          · rw [if_pos (q.mpr ⟨tb, z⟩), if_pos z]
          · rw [if_neg (fun x => z (q.mp x).2), if_neg z]
        rw [e, ts_two hj (r.1 tb) (by omega), key j (fun _ _ _ => rfl), key (j + 2 ^ ((w - 2) / 2)) (fun i hi hne => by rw [((r.2.2 i (by omega)).1 tb), decide_eq_false hne, Bool.or_false]), tb, if_pos rfl]
        have y1 : yn y n j ((w - 2) / 2) = n ((w - 2) / 2) := by unfold yn; rw [tb]; rfl
        have y2 : yn y n (j + 2 ^ ((w - 2) / 2)) ((w - 2) / 2) = y ((w - 2) / 2) := by unfold yn; rw [(r.2.2 _ (by omega)).1 tb, decide_eq_true rfl, Bool.or_true, if_pos rfl]
        rw [y1, y2, ← Nat.mul_assoc, Nat.mul_add, Nat.add_comm]
      · have tb' : j.testBit ((w - 2) / 2) = true := by simpa using tb
        have e : cs (2 ^ K) (fun s => if tB w s = j then QP W y n K s else 0) = 0 := by
          apply cs_0
          intro s hs
          have q := ts_h K hK j hj _ hk s hs
          rw [← ew] at q
          rw [if_neg (fun x => tb (q.mp x).1)]
        rw [e, tb', if_neg (by decide), Nat.mul_zero, Nat.mul_zero]
    · have ew : w = 3 + 2 * ((w - 2) / 2) := by omega
      rw [tzp, decide_eq_true (p := w % 2 = 1) (by omega)]
      by_cases tb : j.testBit ((w - 2) / 2) = true
      · have lb := r.2.1 tb
        have e : cs (2 ^ K) (fun s => if tB w s = j then QP W y n K s else 0) = cs (2 ^ K) (fun s => if s = j ∨ s = j - 2 ^ ((w - 2) / 2) then QP W y n K s else 0) := by
          apply cs_congr
          intro s hs
          have q := ts_a K hK j hj _ hk s hs
          rw [← ew] at q
          by_cases z : s = j ∨ s = j - 2 ^ ((w - 2) / 2)
          · rw [if_pos (q.mpr ⟨tb, z⟩), if_pos z]
          · rw [if_neg (fun x => z (q.mp x).2), if_neg z]
        rw [e, ts_two hj (by omega) (by omega), key j (fun _ _ _ => rfl), key (j - 2 ^ ((w - 2) / 2)) (fun i hi hne => by rw [((r.2.2 i (by omega)).2 tb), decide_eq_false hne]; simp), tb, if_pos rfl]
        have y1 : yn y n j ((w - 2) / 2) = y ((w - 2) / 2) := by unfold yn; rw [tb]; rfl
        have y2 : yn y n (j - 2 ^ ((w - 2) / 2)) ((w - 2) / 2) = n ((w - 2) / 2) := by unfold yn; rw [(r.2.2 _ (by omega)).2 tb, decide_eq_true rfl]; simp
        rw [y1, y2, ← Nat.mul_assoc, Nat.mul_add]
      · have tb' : j.testBit ((w - 2) / 2) = false := by simpa using tb
        have e : cs (2 ^ K) (fun s => if tB w s = j then QP W y n K s else 0) = 0 := by
          apply cs_0
          intro s hs
          have q := ts_a K hK j hj _ hk s hs
          rw [← ew] at q
          rw [if_neg (fun x => tb (q.mp x).1)]
        rw [e, tb', if_neg (by decide), Nat.mul_zero, Nat.mul_zero]
theorem ts_big {K j w : Nat} (hK : K ≤ 3) (hj : 2 ^ K ≤ j) (hw : w < 2 + 2 * K) (P : Nat → Nat) : ts K w j P = 0 := by
  unfold ts
  apply cs_0
  intro s hs
  have := ts_o K hK w hw s hs
  rw [if_neg (by omega)]
theorem cb_g {h : Nat → Nat} (S : Nat → Nat) (a : Nat) (g : Nat → Nat) : ∀ (A : Nat), a < A → sm (fun c => g (c a)) (cb h S A) = pn (fun j => if j = a then 1 else cnt 8 (fun i => (S j).testBit i)) A * mw g (S a)
  | 0, ha => absurd ha (Nat.not_lt_zero a)
  | A + 1, ha => by
    show sm _ ((cb h S A).flatMap (fun c => (fl (fun v => (S A).testBit v) 8 0).map (fun w => upN c A w))) = _
    rw [sm_flat]
    by_cases e : a = A
    · subst e
      have e1 : sm (fun x => sm (fun c => g (c a)) (List.map (fun w => upN x a w) (fl (fun v => (S a).testBit v) 8 0))) (cb h S a) = sm (fun _ => mw g (S a)) (cb h S a) := by
        apply sm_congr
        intro c _
        rw [sm_map, ← sm_bits]
        apply sm_congr
        intro v _
        rw [upN_same]
      rw [e1, sm_const, cb_len]
      show _ = pn _ a * (if a = a then 1 else _) * _
      rw [if_pos rfl, Nat.mul_one]
      congr 1
      apply pn_congr
      intro j hj
      rw [if_neg (by omega)]
    · have ih := cb_g (h := h) S a g A (by omega)
      have e1 : sm (fun x => sm (fun c => g (c a)) (List.map (fun w => upN x A w) (fl (fun v => (S A).testBit v) 8 0))) (cb h S A) = sm (fun c => g (c a) * cnt 8 (fun i => (S A).testBit i)) (cb h S A) := by
        apply sm_congr
        intro c _
        rw [sm_map, sm_congr (G := fun _ => g (c a)) (fun v _ => by rw [upN_ne e]), sm_const, fl_cnt, Nat.mul_comm, cnt_congr (fun i _ => by rw [Nat.zero_add])]
      have sm_mul : ∀ (l : List (Nat → Nat)) (B : Nat), sm (fun c => g (c a) * B) l = sm (fun c => g (c a)) l * B := by
        intro l B
        induction l with
        | nil => exact (Nat.zero_mul B).symm
        | cons x l ihl =>
          show _ + sm _ l = (_ + sm _ l) * B
          rw [ihl, Nat.add_mul]
      rw [e1, sm_mul, ih]
      show _ = pn _ A * (if A = a then 1 else _) * _
      rw [if_neg (fun z => e z.symm), Nat.mul_right_comm]
theorem tf_tz {h : Nat → Nat} (V : VH h) {n : Nat} {L : List ((Nat → Nat) × (Nat → Nat → Bool))} (I : LI h n (h 1) L) {b : (Nat → Nat) × (Nat → Nat → Bool)} (hb : b ∈ L) {c : Nat → Nat} (hc : c ∈ cb h b.1 (h 1)) {a u j : Nat} : pn (TF h n a u c j) (h 0) = pn (tz (yK b (Fw h u (c a))) (nK b (Fw h u (c a))) (c a) j) (h 0) := by
  apply pn_congr
  intro k hk
  have i3 := (I.2.2 b hb).1 c hc k hk
  have tle := tt_le V hk
  have inT : ∀ t, t < 64 → b.2 k t = true → t < TT h k := fun t ht e => by
    rw [i3 t ht] at e
    unfold WA at e
    rw [Bool.and_eq_true] at e
    exact of_decide_eq_true e.1
  have e0 : TF h n a u c j k = cnt 64 (fun t => b.2 k t && (tl h (c a) k t u == j.testBit k)) := by
    unfold TF TA
    apply cnt_congr
    intro t ht
    have w : WM h n c k t = b.2 k t := (i3 t ht).symm
    rw [w]
    cases q : b.2 k t
    · rfl
    · rw [decide_eq_true (inT t ht q), Bool.true_and]
  have yle : yK b (Fw h u (c a)) k ≤ cnt 64 (b.2 k) := cnt_mono (fun t _ z => by
    rw [Bool.and_eq_true] at z
    exact z.1)
  have split : ∀ X : Nat → Bool, cnt 64 (fun t => b.2 k t && X t) + cnt 64 (fun t => b.2 k t && !(X t)) = cnt 64 (b.2 k) := by
    intro X
    have gen : ∀ m, cnt m (fun t => b.2 k t && X t) + cnt m (fun t => b.2 k t && !(X t)) = cnt m (b.2 k) := by
      intro m
      induction m with
      | zero => rfl
      | succ m ih =>
        show cnt m _ + (if (b.2 k m && X m) = true then 1 else 0) + (cnt m _ + (if (b.2 k m && !(X m)) = true then 1 else 0)) = cnt m (b.2 k) + (if b.2 k m = true then 1 else 0)
        cases b.2 k m <;> cases X m <;> simp <;> omega
    exact gen 64
  rw [e0]
  unfold tz
  by_cases q : 1 < c a ∧ (c a - 2) / 2 = k
  · rw [if_pos q]
    have et : ∀ t, tl h (c a) k t u = decide (c a % 2 = 1) := fun t => by
      unfold tl
      rw [if_pos q]
    by_cases e : decide (c a % 2 = 1) = j.testBit k
    · rw [if_pos e]
      have : nK b (Fw h u (c a)) k = cnt 64 (b.2 k) - yK b (Fw h u (c a)) k := rfl
      rw [this, Nat.add_sub_cancel' yle]
      apply cnt_congr
      intro t _
      rw [et, e]
      simp
    · rw [if_neg e]
      apply cnt_0
      intro t _
      rw [et]
      have : (decide (c a % 2 = 1) == j.testBit k) = false := by simpa using e
      rw [this, Bool.and_false]
  · rw [if_neg q]
    have et : ∀ t, t < 64 → b.2 k t = true → tl h (c a) k t u = Fw h u (c a) k t := fun t ht e => by
      have := inT t ht e
      unfold TT at this
      unfold tl Fw
      rw [if_neg q]
      by_cases z : c a = 1
      · rw [if_pos z, if_pos z]
        unfold pu pbu pb
        rw [decide_eq_true this, Bool.true_and]
      · rw [if_neg z, if_neg z]
        unfold pu pb
        rw [decide_eq_true this, Bool.true_and, decide_eq_true (p := 1 ≤ u + 1) (by omega), Bool.true_and, Nat.add_sub_cancel]
    unfold yn
    cases jb : j.testBit k
    · rw [if_neg (by decide)]
      have sp := split (Fw h u (c a) k)
      have : nK b (Fw h u (c a)) k = cnt 64 (fun t => b.2 k t && !(Fw h u (c a) k t)) := by
        unfold nK yK
        omega
      rw [this]
      apply cnt_congr
      intro t ht
      cases r : b.2 k t
      · rfl
      · rw [et t ht r]
        cases Fw h u (c a) k t <;> rfl
    · rw [if_pos rfl]
      unfold yK
      apply cnt_congr
      intro t ht
      cases r : b.2 k t
      · rfl
      · rw [et t ht r]
        cases Fw h u (c a) k t <;> rfl
theorem ss_ts {h : Nat → Nat} (V : VH h) {n : Nat} {L : List ((Nat → Nat) × (Nat → Nat → Bool))} (I : LI h n (h 1) L) {a u : Nat} (ha : a < h 1) {j : Nat} : SS h a u L j = TS h n a u j := by
  have v0 := V.1
  have v1 := V.2.1
  have wlt : ∀ b, b ∈ L → ∀ w, (b.1 a).testBit w = true → w < 2 + 2 * h 0 := by
    intro b hb w hw
    have hv := ((I.2.2 b hb).2.2.2 a ha).2 w hw
    rcases Nat.lt_or_ge w (2 + 2 * h 0) with z | z
    · exact z
    · rw [wb_hi V ha z] at hv
      cases hv
  unfold TS
  by_cases hj : j < 2 ^ h 0
  · rw [if_pos hj, I.2.1 (fun c => pn (TF h n a u c j) (h 0)) (fun c hc => by
      obtain ⟨k, hk, hz⟩ := hc
      refine pn_zero hk ?_
      unfold TF
      apply cnt_0
      intro t ht
      have : WM h n c k t = false := hz t ht
      rw [this, Bool.false_and])]
    unfold SS
    apply sm_congr
    intro b hb
    have e1 : sm (fun c => pn (TF h n a u c j) (h 0)) (cb h b.1 (h 1)) = sm (fun c => (fun w => pn (tz (yK b (Fw h u w)) (nK b (Fw h u w)) w j) (h 0)) (c a)) (cb h b.1 (h 1)) := by
      apply sm_congr
      intro c hc
      exact tf_tz V I hb hc
    rw [e1, cb_g (h := h) b.1 a (fun w => pn (tz (yK b (Fw h u w)) (nK b (Fw h u w)) w j) (h 0)) (h 1) ha]
    have ep : pn (WB b (nI a)) (h 1) = pn (fun j => if j = a then 1 else cnt 8 (fun i => (b.1 j).testBit i)) (h 1) := by
      apply pn_congr
      intro j hj
      unfold WB pcS
      by_cases q : j = a
      · rw [if_pos (by rw [q]), if_pos q]
      · rw [if_neg (fun z => q ((nI_eq (by omega) (by omega)).mp z)), if_neg q]
    rw [← ep]
    unfold ST mw
    have mulcs : ∀ (n : Nat) (W : Nat) (G : Nat → Nat), cs n (fun w => W * G w) = W * cs n G := by
      intro n W G
      induction n with
      | zero => rfl
      | succ n ih =>
        show cs n (fun w => W * G w) + W * G n = W * (cs n G + G n)
        rw [ih, Nat.mul_add]
    rw [← mulcs]
    apply cs_congr
    intro w hw
    by_cases c : (b.1 a).testBit w = true
    · rw [if_pos c, if_pos c, ts_sum v0 hj (wlt b hb w c)]
    · rw [if_neg c, if_neg c, Nat.mul_zero]
  · rw [if_neg hj]
    unfold SS
    apply sm_0
    intro b hb
    unfold ST
    apply cs_0
    intro w hw
    by_cases c : (b.1 a).testBit w = true
    · rw [if_pos c, ts_big v0 (by omega) (wlt b hb w c)]
    · rw [if_neg c]
