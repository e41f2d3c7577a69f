-- PURE ROWS: the class's sums over its branches
def GX (h : Nat → Nat) (d : DD) (first : Nat) (L : List ((Nat → Nat) × (Nat → Nat → Bool))) : Prop := BR d first (h 1) L ∧ d.1 72 5 = nI first ∧ d.1 72 6 = nI (first + L.length) ∧ first + L.length ≤ 781 ∧ SB L
theorem gx_fr {S : List Nat} {d d' : DD} {h : Nat → Nat} {first : Nat} {L : List ((Nat → Nat) × (Nat → Nat → Bool))} (X : GX h d first L) (F : FR S d d') (h1 : 72 ∉ S) (h2 : 76 ∉ S) (h3 : 77 ∉ S) : GX h d' first L := by
  refine ⟨fun i b e => ?_, by rw [(F 72 h1).1]; exact X.2.1, by rw [(F 72 h1).1]; exact X.2.2.1, X.2.2.2⟩
  rw [(F 76 h2).1, (F 77 h3).2]
  exact X.1 i b e
def pcS (b : (Nat → Nat) × (Nat → Nat → Bool)) (a : Nat) : Nat := cnt 8 (fun i => (b.1 a).testBit i)
def tp (F : Nat → Nat → Bool) (b : (Nat → Nat) × (Nat → Nat → Bool)) (k : Nat) : Nat := cnt 64 (fun t => b.2 k t && F k t)
theorem e_waysIn {h : Nat → Nat} {d : DD} {first : Nat} {L : List ((Nat → Nat) × (Nat → Nat → Bool))} (V : VH h) (X : GX h d first L) {i : Nat} {b : (Nat → Nat) × (Nat → Nat → Bool)} (e : L[i]? = some b) {a : Nat} (ha : a < h 1) : f_X8_waysIn (nI (first + i)) (nI a) d = some (nI (b.1 a), d) := by
  have v1 := V.2.1
  have hi := getsome e
  obtain ⟨X1, X2, X3, X4, X5⟩ := X
  have hb := X5 b (List.mem_of_getElem? e)
  have pl := pW_lt hb (h 1)
  have p2 : 2 ^ (8 * h 1) ≤ 2 ^ 32 := Nat.pow_le_pow_right (by decide) (by omega)
  unfold f_X8_waysIn
  rw [e_X9_at, ob_e, rd1_in (by rw [ln_76]; omega), (X1 i b e).1]
  simp only [nI_lit, pk_mul]
  rw [q_iush (by omega) (by omega), nx_and, pW_get hb ha]
theorem c8_32 {s : Nat} (hs : s < 2 ^ 8) : cnt 32 (fun i => s.testBit i) = cnt 8 (fun i => s.testBit i) := cnt_ext (by decide) (fun i hi => Nat.testBit_lt_two_pow (Nat.lt_of_lt_of_le hs (Nat.pow_le_pow_right (by decide) hi)))
def WB (b : (Nat → Nat) × (Nat → Nat → Bool)) (but : Int32) (a : Nat) : Nat := if nI a = but then 1 else pcS b a
theorem wbut_l {h nm} {d : DD} {first : Nat} {L : List ((Nat → Nat) × (Nat → Nat → Bool))} (V : VH h) (H : HC 2 d h nm) (X : GX h d first L) {i : Nat} {b : (Nat → Nat) × (Nat → Nat → Bool)} (e : L[i]? = some b) (but : Int32) : ∀ (m a f : Nat), a + m = h 1 → m < f → f_X8_waysBut_5 f (nI (first + i)) but (lN (pn (WB b but) a)) (nI a) d = some (lN (pn (WB b but) (h 1)), d) := by
  have v1 := V.2.1
  intro m
  induction m with
  | zero =>
    intro a f hi hf
    cases f with
    | zero => omega
    | succ f =>
      show f_X8_waysBut_5B (f_X8_waysBut_5 f) _ _ _ _ _ = _
      unfold f_X8_waysBut_5B
      have ea : a = h 1 := by omega
      subst ea
      rw [hc_p H, if_neg (by rw [nI_ltI (by omega) (by omega)]; omega)]
  | succ m ih =>
    intro a f hi hf
    cases f with
    | zero => omega
    | succ f =>
      show f_X8_waysBut_5B (f_X8_waysBut_5 f) _ _ _ _ _ = _
      unfold f_X8_waysBut_5B
      have s := ih (a + 1) f (by omega) (by omega)
      rw [pn] at s
      rw [hc_p H, if_pos (by rw [nI_ltI (by omega) (by omega)]; omega)]
      by_cases q : nI a = but
      · have w1 : WB b but a = 1 := if_pos q
        rw [w1, Nat.mul_one] at s
        rw [if_pos q, nI_1]
        exact s
      · have w1 : WB b but a = pcS b a := if_neg q
        rw [w1] at s
        have hb := X.2.2.2.2 b (List.mem_of_getElem? e) a
        have pl : pcS b a ≤ 8 := cnt_le _ _
        unfold pcS at pl s
        rw [if_neg q, e_waysIn V X e (by omega), ob_e, e_J6n, ob_e, c8_32 hb, bd_e]
        dsimp only
        rw [nI_l (by omega), lN_mul, nI_1]
        exact s
theorem e_waysBut {h nm} {d : DD} {first : Nat} {L : List ((Nat → Nat) × (Nat → Nat → Bool))} (V : VH h) (H : HC 2 d h nm) (X : GX h d first L) {i : Nat} {b : (Nat → Nat) × (Nat → Nat → Bool)} (e : L[i]? = some b) (but : Int32) : f_X8_waysBut (nI (first + i)) but d = some (lN (pn (WB b but) (h 1)), d) := by
  have v1 := V.2.1
  exact wbut_l V H X e but (h 1) 0 FU (by omega) (by unfold FU; omega)
def PK (d : DD) (F : Nat → Nat → Bool) : Prop := ∀ k, k < 3 → d.2 78 k = mkL (F k)
theorem tpk_l {h : Nat → Nat} {d : DD} {first : Nat} {L : List ((Nat → Nat) × (Nat → Nat → Bool))} (X : GX h d first L) {F : Nat → Nat → Bool} (P : PK d F) {i : Nat} {b : (Nat → Nat) × (Nat → Nat → Bool)} (e : L[i]? = some b) : ∀ (m k f : Nat), k + m = 3 → m < f → f_X8_timesPicked_5 f (nI (first + i)) (lN (pn (tp F b) k)) (nI k) d = some (lN (pn (tp F b) 3), d) := by
  have hi' := getsome e
  have X4 := X.2.2.2.1
  intro m
  induction m with
  | zero =>
    intro k f hi hf
    cases f with
    | zero => omega
    | succ f =>
      show f_X8_timesPicked_5B (f_X8_timesPicked_5 f) _ _ _ _ = _
      unfold f_X8_timesPicked_5B
      have ek : k = 3 := by omega
      subst ek
      rw [if_neg (by decide)]
  | succ m ih =>
    intro k f hi hf
    cases f with
    | zero => omega
    | succ f =>
      show f_X8_timesPicked_5B (f_X8_timesPicked_5 f) _ _ _ _ = _
      unfold f_X8_timesPicked_5B
      have s := ih (k + 1) f (by omega) (by omega)
      rw [pn] at s
      have pl : tp F b k ≤ 64 := cnt_le _ _
      unfold tp at pl
      rw [if_pos (by rw [nI_lit, nI_ltI (by omega) (by omega)]; omega), e_branchTime (by omega), ob_e, (X.1 i b e).2 k (by omega), e_X9_longAt, ob_e, rd2_in (by rw [ln_78]; omega), P k (by omega)]
      dsimp only
      rw [mk_and, e_J13m, ob_e, bd_e]
      dsimp only
      rw [nI_l (by omega), lN_mul, nI_1]
      exact s
theorem e_timesPicked {h : Nat → Nat} {d : DD} {first : Nat} {L : List ((Nat → Nat) × (Nat → Nat → Bool))} (X : GX h d first L) {F : Nat → Nat → Bool} (P : PK d F) {i : Nat} {b : (Nat → Nat) × (Nat → Nat → Bool)} (e : L[i]? = some b) : f_X8_timesPicked (nI (first + i)) d = some (lN (pn (tp F b) 3), d) := tpk_l X P e 3 0 FU (by omega) (by unfold FU; omega)
def PS (h : Nat → Nat) (F : Nat → Nat → Bool) (L : List ((Nat → Nat) × (Nat → Nat → Bool))) : Nat := sm (fun b => pn (WB b mI) (h 1) * pn (tp F b) 3) L
theorem pkd_l {h nm} {d : DD} {first : Nat} {L : List ((Nat → Nat) × (Nat → Nat → Bool))} (V : VH h) (H : HC 2 d h nm) (X : GX h d first L) {F : Nat → Nat → Bool} (P : PK d F) : ∀ (m i f acc : Nat), i + m = L.length → m < f → f_X8_picked_7 f (lN acc) (nI (first + i)) d = some (lN (acc + PS h F (L.drop i)), d) := by
  have X4 := X.2.2.2.1
  intro m
  induction m with
  | zero =>
    intro i f acc hi hf
    cases f with
    | zero => omega
    | succ f =>
      show f_X8_picked_7B (f_X8_picked_7 f) _ _ _ = _
      unfold f_X8_picked_7B
      rw [X.2.2.1, if_neg (by rw [nI_ltI (by omega) (by omega)]; omega), List.drop_eq_nil_of_le (by omega)]
      rfl
  | succ m ih =>
    intro i f acc hi hf
    cases f with
    | zero => omega
    | succ f =>
      show f_X8_picked_7B (f_X8_picked_7 f) _ _ _ = _
      unfold f_X8_picked_7B
      have hil : i < L.length := by omega
      have e : L[i]? = some L[i] := List.getElem?_eq_getElem hil
      rw [X.2.2.1, if_pos (by rw [nI_ltI (by omega) (by omega)]; omega), show (-1 : Int32) = mI from rfl, e_waysBut V H X e, ob_e, e_timesPicked X P e, ob_e, bd_e]
      dsimp only
      rw [lN_mul, lN_add, nI_1, Nat.add_assoc first, ih (i + 1) f _ (by omega) (by omega), drop_cons e]
      show some (lN (acc + _ + _), d) = some (lN (acc + (_ + _)), d)
      rw [Nat.add_assoc]
      rfl
theorem e_picked {h nm} {d : DD} {first : Nat} {L : List ((Nat → Nat) × (Nat → Nat → Bool))} (V : VH h) (H : HC 2 d h nm) (X : GX h d first L) {F : Nat → Nat → Bool} (P : PK d F) : f_X8_picked d = some (lN (PS h F L), d) := by
  have X4 := X.2.2.2.1
  unfold f_X8_picked
  rw [bd_e, X.2.1]
  have s := pkd_l V H X P L.length 0 FU 0 (by omega) (by unfold FU; omega)
  rw [Nat.zero_add] at s
  exact s
theorem e_pickAny (d : DD) : OW (f_X8_pickAny d) (fun _ d' => FR [78] d d' ∧ PK d' FT) := by
  unfold f_X8_pickAny
  refine ow_call (e_fill2 _ _) ?_
  intro _ d' H'
  refine ow_ret ⟨H'.1, fun k hk => ?_⟩
  rw [H'.2 k (by rw [ln_78]; exact hk), show (-1 : Int64) = mL from rfl, mk_m1]
  rfl
theorem e_pick {d : DD} {k : Nat} (hk : k < 3) (x : Int64) : f_X8_pick (nI k) x d = some ((), u2 d 78 k x) := by
  unfold f_X8_pick
  rw [e_X9_putLong, ob_e, wr2_in (by rw [ln_78]; exact hk)]
theorem e_total {h nm} {d : DD} {first : Nat} {L : List ((Nat → Nat) × (Nat → Nat → Bool))} (V : VH h) (H : HC 2 d h nm) (X : GX h d first L) : OW (f_X8_total d) (fun r d' => FR [78] d d' ∧ r = lN (PS h FT L)) := by
  unfold f_X8_total
  refine ow_call (e_pickAny d) ?_
  intro _ d' H'
  rw [e_picked V (hc_fr H H'.1 (by decide)) (gx_fr X H'.1 (by decide) (by decide) (by decide)) H'.2, ob_e]
  exact ow_ret ⟨H'.1, rfl⟩
def WW (h : Nat → Nat) (a w : Nat) (L : List ((Nat → Nat) × (Nat → Nat → Bool))) : Nat := sm (fun b => if (b.1 a).testBit w = true then pn (WB b (nI a)) (h 1) * pn (tp FT b) 3 else 0) L
theorem ww_l {h nm} {d : DD} {first : Nat} {L : List ((Nat → Nat) × (Nat → Nat → Bool))} (V : VH h) (H : HC 2 d h nm) (X : GX h d first L) (P : PK d FT) {a w : Nat} (ha : a < h 1) (hw : w < 8) : ∀ (m i f acc : Nat), i + m = L.length → m < f → f_X8_withWay_12 f (nI a) (nI w) (lN acc) (nI (first + i)) d = some (lN (acc + WW h a w (L.drop i)), d) := by
  have X4 := X.2.2.2.1
  intro m
  induction m with
  | zero =>
    intro i f acc hi hf
    cases f with
    | zero => omega
    | succ f =>
      show f_X8_withWay_12B (f_X8_withWay_12 f) _ _ _ _ _ = _
      unfold f_X8_withWay_12B
      rw [X.2.2.1, if_neg (by rw [nI_ltI (by omega) (by omega)]; omega), List.drop_eq_nil_of_le (by omega)]
      rfl
  | succ m ih =>
    intro i f acc hi hf
    cases f with
    | zero => omega
    | succ f =>
      show f_X8_withWay_12B (f_X8_withWay_12 f) _ _ _ _ _ = _
      unfold f_X8_withWay_12B
      have hil : i < L.length := by omega
      have e : L[i]? = some L[i] := List.getElem?_eq_getElem hil
      have hb := X.2.2.2.2 L[i] (List.mem_of_getElem? e) a
      rw [X.2.2.1, if_pos (by rw [nI_ltI (by omega) (by omega)]; omega), e_waysIn V X e ha, ob_e, drop_cons e]
      simp only [nI_lit]
      by_cases q : (L[i].1 a).testBit w = true
      · rw [if_pos ((q_uhas (by omega) (by omega)).mpr q), e_waysBut V H X e, ob_e, e_timesPicked X P e, ob_e, bd_e]
        dsimp only
        rw [lN_mul, lN_add, nI_add, Nat.add_assoc first, ih (i + 1) f _ (by omega) (by omega)]
        show some (lN (acc + _ + _), d) = some (lN (acc + ((if (L[i].1 a).testBit w = true then _ else 0) + _)), d)
        rw [if_pos q, Nat.add_assoc]
        rfl
      · rw [if_neg (fun z => q ((q_uhas (by omega) (by omega)).mp z)), nI_add, Nat.add_assoc first, ih (i + 1) f _ (by omega) (by omega)]
        show some (lN (acc + _), d) = some (lN (acc + ((if (L[i].1 a).testBit w = true then _ else 0) + _)), d)
        rw [if_neg q, Nat.zero_add]
        rfl
theorem e_withWay {h nm} {d : DD} {first : Nat} {L : List ((Nat → Nat) × (Nat → Nat → Bool))} (V : VH h) (H : HC 2 d h nm) (X : GX h d first L) {a w : Nat} (ha : a < h 1) (hw : w < 8) : OW (f_X8_withWay (nI a) (nI w) d) (fun r d' => FR [78] d d' ∧ r = lN (WW h a w L)) := by
  have X4 := X.2.2.2.1
  unfold f_X8_withWay
  refine ow_call (e_pickAny d) ?_
  intro _ d' H'
  have X' := gx_fr X H'.1 (by decide) (by decide) (by decide)
  rw [bd_e, X'.2.1]
  have s := ww_l V (hc_fr H H'.1 (by decide)) X' H'.2 ha hw L.length 0 FU 0 (by omega) (by unfold FU; omega)
  rw [Nat.zero_add] at s
  exact ⟨_, _, s, H'.1, rfl⟩
theorem pos_l {h : Nat → Nat} {d : DD} {first : Nat} {L : List ((Nat → Nat) × (Nat → Nat → Bool))} (X : GX h d first L) {k : Nat} (hk : k < 3) : ∀ (m i f : Nat) (S : Nat → Bool), i + m = L.length → m < f → f_X8_possible_8 f (nI k) (mkL S) (nI (first + i)) d = some (mkL (fun t => S t || (L.drop i).any (fun b => b.2 k t)), d) := by
  have X4 := X.2.2.2.1
  intro m
  induction m with
  | zero =>
    intro i f S hi hf
    cases f with
    | zero => omega
    | succ f =>
      show f_X8_possible_8B (f_X8_possible_8 f) _ _ _ _ = _
      unfold f_X8_possible_8B
      rw [X.2.2.1, if_neg (by rw [nI_ltI (by omega) (by omega)]; omega), List.drop_eq_nil_of_le (by omega)]
      refine some_mk (fun t _ => ?_)
      simp
  | succ m ih =>
    intro i f S hi hf
    cases f with
    | zero => omega
    | succ f =>
      show f_X8_possible_8B (f_X8_possible_8 f) _ _ _ _ = _
      unfold f_X8_possible_8B
      have hil : i < L.length := by omega
      have e : L[i]? = some L[i] := List.getElem?_eq_getElem hil
      rw [X.2.2.1, if_pos (by rw [nI_ltI (by omega) (by omega)]; omega), e_branchTime (by omega), ob_e, (X.1 i _ e).2 k hk, bd_e]
      dsimp only
      rw [mk_or, nI_1, Nat.add_assoc first, ih (i + 1) f _ (by omega) (by omega), drop_cons e]
      refine some_mk (fun t _ => ?_)
      rw [List.any_cons, Bool.or_assoc]
theorem e_possible {h : Nat → Nat} {d : DD} {first : Nat} {L : List ((Nat → Nat) × (Nat → Nat → Bool))} (X : GX h d first L) {k : Nat} (hk : k < 3) : f_X8_possible (nI k) d = some (mkL (fun t => L.any (fun b => b.2 k t)), d) := by
  have X4 := X.2.2.2.1
  unfold f_X8_possible
  rw [bd_e, X.2.1]
  have s := pos_l X hk L.length 0 FU (fun _ => false) (by omega) (by unfold FU; omega)
  rw [← mk_0] at s
  refine Eq.trans s (some_mk (fun t _ => ?_))
  rw [List.drop_zero, Bool.false_or]
