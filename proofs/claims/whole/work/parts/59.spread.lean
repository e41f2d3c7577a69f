-- PURE ROWS: the class's spread
def tB (w s : Nat) : Nat := if w ≤ 1 then s else if w % 2 = 0 then s &&& (7 ^^^ 2 ^ ((w - 2) / 2)) else s ||| 2 ^ ((w - 2) / 2)
def tBI (x y : Int32) : Int32 := if (1 : Int32) < x then (if (x &&& (1 : Int32)) = 0 then y &&& (((1 : Int32) <<< (((x - (2 : Int32)) / (2 : Int32)) &&& 31)) ^^^ (-1 : Int32)) else y ||| ((1 : Int32) <<< (((x - (2 : Int32)) / (2 : Int32)) &&& 31))) else y
theorem tB_c : ∀ w, w < 8 → ∀ s, s < 8 → tBI (nI w) (nI s) = nI (tB w s) ∧ tB w s < 8 := by decide +kernel
theorem e_toldBy {w s : Nat} (hw : w < 8) (hs : s < 8) (d : DD) : f_X9_toldBy (nI w) (nI s) d = some (nI (tB w s), d) := by
  rw [← (tB_c w hw s hs).1]
  unfold f_X9_toldBy tBI
  by_cases c : (1 : Int32) < nI w
  · rw [if_pos c, if_pos c, bd_e]
    by_cases e : (nI w &&& (1 : Int32)) = 0
    · rw [if_pos e, if_pos e]
    · rw [if_neg e, if_neg e]
  · rw [if_neg c, if_neg c]
theorem or_add {s k : Nat} (h : s < 2 ^ k) : s ||| 2 ^ k = s + 2 ^ k := by
  have e := mkN_tb' h
  have t := mkN_top (n := k) (P := fun i => s.testBit i)
  rw [← e] at t
  exact t
def yn (y n : Nat → Nat) (s k : Nat) : Nat := if s.testBit k = true then y k else n k
def QP (W : Nat) (y n : Nat → Nat) (K s : Nat) : Nat := W * pn (yn y n s) K
theorem qp_lo {W : Nat} {y n : Nat → Nat} {k s : Nat} (h : s < 2 ^ k) : QP W y n (k + 1) s = QP W y n k s * n k := by
  unfold QP
  show W * (pn (yn y n s) k * yn y n s k) = _
  have : yn y n s k = n k := by
    unfold yn
    rw [if_neg (by rw [Nat.testBit_lt_two_pow h]; decide)]
  rw [this, Nat.mul_assoc]
theorem qp_hi {W : Nat} {y n : Nat → Nat} {k s : Nat} (h : s < 2 ^ k) : QP W y n (k + 1) (s + 2 ^ k) = QP W y n k s * y k := by
  unfold QP
  show W * (pn (yn y n (s + 2 ^ k)) k * yn y n (s + 2 ^ k) k) = _
  have e1 : yn y n (s + 2 ^ k) k = y k := by
    unfold yn
    rw [Nat.add_comm, Nat.testBit_two_pow_add_eq, Nat.testBit_lt_two_pow h]
    rfl
  have e2 : pn (yn y n (s + 2 ^ k)) k = pn (yn y n s) k := by
    apply pn_congr
    intro i hi
    unfold yn
    rw [Nat.add_comm, Nat.testBit_two_pow_add_gt hi]
  rw [e1, e2, Nat.mul_assoc]
theorem dv73 {d0 : DD} {p : Nat} {W : Nat} {y n : Nat → Nat} {k : Nat} (hk : k < 3) (v1 : Int32) (k17 : Int32 → Int32 → DD → Option (Unit × DD)) (Q : Unit → DD → Prop) (K : ∀ d, FR [81] d0 d → (∀ s, s < 2 ^ (k + 1) → d.2 81 s = lN (QP W y n (k + 1) s)) → OW (k17 v1 (nI (k + 1)) d) Q) : ∀ (m s f : Nat) (d : DD), s + m = 2 ^ k → m < f → FR [81] d0 d → (∀ r, r < s → d.2 81 r = lN (QP W y n (k + 1) r) ∧ d.2 81 (r + 2 ^ k) = lN (QP W y n (k + 1) (r + 2 ^ k))) → (∀ r, s ≤ r → r < 2 ^ k → d.2 81 r = lN (QP W y n k r)) → OW (f_X8_divide_73 p k17 f v1 (nI k) (lN (y k)) (lN (n k)) (nI (2 ^ k)) (nI s) d) Q := by
  have p8 : 2 ^ k ≤ 2 ^ 2 := Nat.pow_le_pow_right (by decide) (by omega)
  intro m
  induction m with
  | zero =>
    intro s f d hi hf F G1 G2
    cases f with
    | zero => omega
    | succ f =>
      show OW (f_X8_divide_73B p k17 (f_X8_divide_73 p k17 f) _ _ _ _ _ _ _) Q
      unfold f_X8_divide_73B
      rw [if_neg (by rw [nI_ltI (by omega) (by omega)]; omega), nI_1]
      refine K d F (fun r hr => ?_)
      rw [Nat.pow_succ] at hr
      rcases Nat.lt_or_ge r (2 ^ k) with z | z
      · exact (G1 r (by omega)).1
      · have := (G1 (r - 2 ^ k) (by omega)).2
        rw [show r - 2 ^ k + 2 ^ k = r by omega] at this
        exact this
  | succ m ih =>
    intro s f d hi hf F G1 G2
    cases f with
    | zero => omega
    | succ f =>
      show OW (f_X8_divide_73B p k17 (f_X8_divide_73 p k17 f) _ _ _ _ _ _ _) Q
      unfold f_X8_divide_73B
      have hs : s < 2 ^ k := by omega
      rw [if_pos (by rw [nI_ltI (by omega) (by omega)]; exact hs), e_X9_longAt, ob_e, rd2_in (by rw [ln_81]; omega), G2 s (Nat.le_refl _) hs, e_X9_putLong, ob_e, nx_or, or_add hs, wr2_in (by rw [ln_81]; omega), e_X9_putLong, ob_e, wr2_in (by rw [ln_81]; omega), nI_1]
      dsimp only
      rw [lN_mul, lN_mul, ← qp_lo hs, ← qp_hi hs]
      refine ih (s + 1) f _ (by omega) (by omega) (fr_u2 (fr_u2 F (by decide)) (by decide)) (fun r hr => ?_) (fun r h1 h2 => ?_)
      · rw [u2_at, u2_at, u2_at, u2_at]
        by_cases e : r = s
        · subst e
          rw [if_pos ⟨rfl, rfl⟩, if_neg (by omega), if_pos ⟨rfl, rfl⟩]
          exact ⟨rfl, rfl⟩
        · rw [if_neg (by omega), if_neg (by omega), if_neg (by omega), if_neg (by omega)]
          exact G1 r (by omega)
      · rw [u2_at, if_neg (by omega), u2_at, if_neg (by omega)]
        exact G2 r (by omega) h2
def yK (b : (Nat → Nat) × (Nat → Nat → Bool)) (F : Nat → Nat → Bool) (k : Nat) : Nat := cnt 64 (fun t => b.2 k t && F k t)
def nK (b : (Nat → Nat) × (Nat → Nat → Bool)) (F : Nat → Nat → Bool) (k : Nat) : Nat := cnt 64 (b.2 k) - yK b F k
theorem dv17 {h nm} {d0 : DD} (V : VH h) (H : HC 2 d0 h nm) {first : Nat} {L : List ((Nat → Nat) × (Nat → Nat → Bool))} (X : GX h d0 first L) {i : Nat} {b : (Nat → Nat) × (Nat → Nat → Bool)} (e : L[i]? = some b) {p : Nat} (hp : p ≠ 81) (hlp : ln p = 3) {F : Nat → Nat → Bool} (hF : ∀ k, k < h 0 → d0.2 p k = mkL (F k)) {W : Nat} : ∀ (m k f : Nat) (d : DD), k + m = h 0 → m < f → FR [81] d0 d → (∀ s, s < 2 ^ k → d.2 81 s = lN (QP W (yK b F) (nK b F) k s)) → OW (f_X8_divide_17 p f (nI (first + i)) (nI k) d) (fun _ d' => FR [81] d0 d' ∧ ∀ s, s < 2 ^ h 0 → d'.2 81 s = lN (QP W (yK b F) (nK b F) (h 0) s)) := by
  have v0 := V.1
  have hil := getsome e
  have X4 := X.2.2.2.1
  intro m
  induction m with
  | zero =>
    intro k f d hi hf FF G
    cases f with
    | zero => omega
    | succ f =>
      show OW (f_X8_divide_17B p (f_X8_divide_17 p f) _ _ _) _
      unfold f_X8_divide_17B
      have ek : k = h 0 := by omega
      subst ek
      rw [hc_k (hc_fr H FF (by decide)), if_neg (by rw [nI_ltI (by omega) (by omega)]; omega)]
      exact ow_ret ⟨FF, G⟩
  | succ m ih =>
    intro k f d hi hf FF G
    cases f with
    | zero => omega
    | succ f =>
      show OW (f_X8_divide_17B p (f_X8_divide_17 p f) _ _ _) _
      unfold f_X8_divide_17B
      have hk : k < h 0 := by omega
      have X' := gx_fr X FF (by decide) (by decide) (by decide)
      have ep : d.2 p k = mkL (F k) := by rw [(FF p (by simp [hp])).2]; exact hF k hk
      have yl : yK b F k ≤ 64 := cnt_le _ _
      have bl' : cnt 64 (b.2 k) ≤ 64 := cnt_le _ _
      have le : yK b F k ≤ cnt 64 (b.2 k) := cnt_mono (fun t _ z => by
        rw [Bool.and_eq_true] at z
        exact z.1)
      rw [hc_k (hc_fr H FF (by decide)), if_pos (by rw [nI_ltI (by omega) (by omega)]; exact hk), e_branchTime (by omega), ob_e, (X'.1 i b e).2 k (by omega), e_X9_longAt, ob_e, rd2_in (by rw [hlp]; omega), ep]
      dsimp only
      rw [mk_and, e_J13m, ob_e]
      dsimp only
      rw [e_J13m, ob_e]
      dsimp only
      rw [bd_e, bd_e]
      simp only [nI_lit]
      rw [q_shl (by omega), show cnt 64 (fun t => b.2 k t && F k t) = yK b F k from rfl, nI_l (n := yK b F k) (by omega), nI_l (n := cnt 64 (b.2 k)) (by omega), lN_sub le]
      refine dv73 (p := p) (W := W) (y := yK b F) (n := nK b F) (d0 := d0) (by omega) _ _ _ (fun d' F' G' => ih (k + 1) f d' (by omega) (by omega) F' G') (2 ^ k) 0 FU d (by omega) (by have : 2 ^ k ≤ 2 ^ 2 := Nat.pow_le_pow_right (by decide) (by omega); unfold FU; omega) FF (fun r hr => by omega) (fun r _ hr => G r hr)
theorem e_divide {h nm} {d : DD} (V : VH h) (H : HC 2 d h nm) {first : Nat} {L : List ((Nat → Nat) × (Nat → Nat → Bool))} (X : GX h d first L) {i : Nat} {b : (Nat → Nat) × (Nat → Nat → Bool)} (e : L[i]? = some b) {p : Nat} (hp : p ≠ 81) (hlp : ln p = 3) {F : Nat → Nat → Bool} (hF : ∀ k, k < h 0 → d.2 p k = mkL (F k)) (x : Int32) : OW (f_X8_divide (nI (first + i)) x p d) (fun _ d' => FR [81] d d' ∧ ∀ s, s < 2 ^ h 0 → d'.2 81 s = lN (QP (pn (WB b x) (h 1)) (yK b F) (nK b F) (h 0) s)) := by
  have v0 := V.1
  unfold f_X8_divide
  rw [e_waysBut V H X e, ob_e, e_X9_putLong, ob_e]
  dsimp only
  rw [show (0 : Int32) = nI 0 from rfl, wr2_in (by rw [ln_81]; decide)]
  have F1 : FR [81] d (u2 d 81 0 (lN (pn (WB b x) (h 1)))) := fr_u2 (fr_refl _ _) (by decide)
  refine ow_mono (dv17 V (hc_fr H F1 (by decide)) (gx_fr X F1 (by decide) (by decide) (by decide)) e hp hlp (F := F) (fun k hk => by rw [(F1 p (by simp [hp])).2]; exact hF k hk) (W := pn (WB b x) (h 1)) (h 0) 0 FU _ (by omega) (by unfold FU; omega) (fr_refl _ _) (fun s hs => ?_)) ?_
  · have : s = 0 := by
      rw [Nat.pow_zero] at hs
      omega
    subst this
    rw [u2_at, if_pos ⟨rfl, rfl⟩]
    unfold QP
    rw [show pn (yn (yK b F) (nK b F) 0) 0 = 1 from rfl, Nat.mul_one]
  · intro _ d' H'
    exact ⟨fr_trans F1 H'.1, H'.2⟩
def ts (K w j : Nat) (P : Nat → Nat) : Nat := cs (2 ^ K) (fun s => if tB w s = j then P s else 0)
theorem at19 {h nm} {d0 : DD} (V : VH h) (H : HC 2 d0 h nm) {P : Nat → Nat} (hP : ∀ s, s < 2 ^ h 0 → d0.2 81 s = lN (P s)) {S : Nat → Nat} {w : Nat} (hw : w < 8) (v1 : Int32) (k2 : Int32 → Int32 → DD → Option (Unit × DD)) (Q : Unit → DD → Prop) (K : ∀ d, FR [82] d0 d → (∀ j, j < 8 → d.2 82 j = lN (S j + ts (h 0) w j P)) → OW (k2 v1 (nI (w + 1)) d) Q) : ∀ (m s f : Nat) (d : DD), s + m = 2 ^ h 0 → m < f → FR [82] d0 d → (∀ j, j < 8 → d.2 82 j = lN (S j + cs s (fun s => if tB w s = j then P s else 0))) → OW (f_X8_addTold_19 k2 f v1 (nI w) (nI s) d) Q := by
  have v0 := V.1
  have p8 : 2 ^ h 0 ≤ 2 ^ 3 := Nat.pow_le_pow_right (by decide) v0
  intro m
  induction m with
  | zero =>
    intro s f d hi hf F G
    cases f with
    | zero => omega
    | succ f =>
      show OW (f_X8_addTold_19B k2 (f_X8_addTold_19 k2 f) _ _ _ _) Q
      unfold f_X8_addTold_19B
      have es : s = 2 ^ h 0 := by omega
      subst es
      rw [hc_k (hc_fr H F (by decide))]
      simp only [nI_lit]
      rw [q_shl (by omega), if_neg (by rw [nI_ltI (by omega) (by omega)]; omega), nI_add]
      exact K d F G
  | succ m ih =>
    intro s f d hi hf F G
    cases f with
    | zero => omega
    | succ f =>
      show OW (f_X8_addTold_19B k2 (f_X8_addTold_19 k2 f) _ _ _ _) Q
      unfold f_X8_addTold_19B
      have hs : s < 2 ^ h 0 := by omega
      have tb := (tB_c w hw s (by omega)).2
      rw [hc_k (hc_fr H F (by decide))]
      simp only [nI_lit]
      rw [q_shl (by omega), if_pos (by rw [nI_ltI (by omega) (by omega)]; exact hs), e_toldBy hw (by omega), ob_e, e_X9_longAt, ob_e, rd2_in (by rw [ln_82]; exact tb), e_X9_longAt, ob_e, rd2_in (by rw [ln_81]; omega)]
      dsimp only
      have e81 : d.2 81 s = lN (P s) := by rw [(F 81 (by decide)).2]; exact hP s hs
      rw [G _ tb, e81, e_X9_putLong, ob_e, wr2_in (by rw [ln_82]; exact tb), lN_add, nI_add]
      refine ih (s + 1) f _ (by omega) (by omega) (fr_u2 F (by decide)) (fun j hj => ?_)
      rw [u2_at]
      show _ = lN (S j + (cs s (fun s => if tB w s = j then P s else 0) + (if tB w s = j then P s else 0)))
      by_cases e : j = tB w s
      · rw [if_pos ⟨rfl, e⟩, if_pos e.symm, e, Nat.add_assoc]
      · rw [if_neg (fun z => e z.2), if_neg (fun z => e z.symm), Nat.add_zero]
        exact G j hj
def AT (K ways j : Nat) (P : Nat → Nat) (n : Nat) : Nat := cs n (fun w => if ways.testBit w = true then ts K w j P else 0)
theorem at2 {h nm} {d0 : DD} (V : VH h) (H : HC 2 d0 h nm) {P : Nat → Nat} (hP : ∀ s, s < 2 ^ h 0 → d0.2 81 s = lN (P s)) {S : Nat → Nat} {ways : Nat} (hw : ways < 2 ^ 8) : ∀ (m w f : Nat) (d : DD), w + m = 8 → m < f → FR [82] d0 d → (∀ j, j < 8 → d.2 82 j = lN (S j + AT (h 0) ways j P w)) → OW (f_X8_addTold_2 f (nI ways) (nI w) d) (fun _ d' => FR [82] d0 d' ∧ ∀ j, j < 8 → d'.2 82 j = lN (S j + AT (h 0) ways j P 8)) := by
  have v0 := V.1
  have p8 : 2 ^ h 0 ≤ 2 ^ 3 := Nat.pow_le_pow_right (by decide) v0
  intro m
  induction m with
  | zero =>
    intro w f d hi hf F G
    cases f with
    | zero => omega
    | succ f =>
      show OW (f_X8_addTold_2B (f_X8_addTold_2 f) _ _ _) _
      unfold f_X8_addTold_2B
      have es : w = 8 := by omega
      subst es
      rw [if_neg (by decide)]
      exact ow_ret ⟨F, G⟩
  | succ m ih =>
    intro w f d hi hf F G
    cases f with
    | zero => omega
    | succ f =>
      show OW (f_X8_addTold_2B (f_X8_addTold_2 f) _ _ _) _
      unfold f_X8_addTold_2B
      rw [if_pos (by rw [nI_lit, nI_ltI (by omega) (by omega)]; omega)]
      simp only [nI_lit]
      by_cases c : ways.testBit w = true
      · rw [if_pos ((q_uhas (by omega) (by omega)).mpr c)]
        refine at19 (d0 := d) V (hc_fr H F (by decide)) (P := P) (S := fun j => S j + AT (h 0) ways j P w) (fun s hs => by rw [(F 81 (by decide)).2]; exact hP s hs) (by omega) _ _ _ (fun d' F' G' => ih (w + 1) f d' (by omega) (by omega) (fr_trans F F') (fun j hj => ?_)) (2 ^ h 0) 0 FU d (by omega) (by unfold FU; omega) (fr_refl _ _) (fun j hj => ?_)
        · rw [G' j hj]
          show _ = lN (S j + (AT (h 0) ways j P w + (if ways.testBit w = true then ts (h 0) w j P else 0)))
          rw [if_pos c, Nat.add_assoc]
        · rw [G j hj]
          rfl
      · rw [if_neg (fun z => c ((q_uhas (by omega) (by omega)).mp z)), nI_add]
        refine ih (w + 1) f d (by omega) (by omega) F (fun j hj => ?_)
        rw [G j hj]
        show _ = lN (S j + (AT (h 0) ways j P w + (if ways.testBit w = true then ts (h 0) w j P else 0)))
        rw [if_neg c, Nat.add_zero]
theorem e_addTold {h nm} {d : DD} (V : VH h) (H : HC 2 d h nm) {P : Nat → Nat} (hP : ∀ s, s < 2 ^ h 0 → d.2 81 s = lN (P s)) {S : Nat → Nat} (hS : ∀ j, j < 8 → d.2 82 j = lN (S j)) {ways : Nat} (hw : ways < 2 ^ 8) : OW (f_X8_addTold (nI ways) d) (fun _ d' => FR [82] d d' ∧ ∀ j, j < 8 → d'.2 82 j = lN (S j + AT (h 0) ways j P 8)) := at2 V H hP hw 8 0 FU d (by omega) (by unfold FU; omega) (fr_refl _ _) (fun j hj => hS j hj)
def Fw (h : Nat → Nat) (u w k t : Nat) : Bool := if w = 1 then pbu (h (2 + k)) (h (5 + k)) t u else pb (h (2 + k)) (h (5 + k)) t u
def ST (h : Nat → Nat) (a u : Nat) (b : (Nat → Nat) × (Nat → Nat → Bool)) (j : Nat) : Nat := cs 8 (fun w => if (b.1 a).testBit w = true then ts (h 0) w j (QP (pn (WB b (nI a)) (h 1)) (yK b (Fw h u w)) (nK b (Fw h u w)) (h 0)) else 0)
def ex1 (s : Nat) : Nat := mkN 8 (fun w => s.testBit w && !(decide (w = 1)))
theorem ex1_e {s : Nat} (hs : s < 2 ^ 8) : nI s &&& (nI (s &&& 2) ^^^ mI) = nI (ex1 s) := by
  apply b_ext
  intro i hi
  unfold ex1
  rw [b_and, b_xor, bt_nI hi, bt_nI hi, bt_nI hi, show mI = (-1 : Int32) from rfl, b_m1 i hi, mkN_tb, Nat.testBit_and, show (2 : Nat) = 2 ^ 1 from rfl, Nat.testBit_two_pow]
  by_cases c : i < 8
  · rw [decide_eq_true c]
    by_cases e : i = 1
    · subst e
      cases s.testBit 1 <;> rfl
    · rw [decide_eq_false (p := 1 = i) (fun z => e z.symm), decide_eq_false e]
      cases s.testBit i <;> rfl
  · rw [decide_eq_false c, Nat.testBit_lt_two_pow (Nat.lt_of_lt_of_le hs (Nat.pow_le_pow_right (by decide) (by omega)))]
    rfl
theorem at_late {h : Nat → Nat} {a u : Nat} {b : (Nat → Nat) × (Nat → Nat → Bool)} (hs : b.1 a < 2 ^ 8) (j : Nat) : ST h a u b j = AT (h 0) (b.1 a &&& 2) j (QP (pn (WB b (nI a)) (h 1)) (yK b (Fw h u 1)) (nK b (Fw h u 1)) (h 0)) 8 + AT (h 0) (ex1 (b.1 a)) j (QP (pn (WB b (nI a)) (h 1)) (yK b (Fw h u 0)) (nK b (Fw h u 0)) (h 0)) 8 := by
  unfold ST AT
  rw [← cs_add]
  apply cs_congr
  intro w hw
  have t1 : (b.1 a &&& 2).testBit w = ((b.1 a).testBit w && decide (1 = w)) := by
    rw [Nat.testBit_and, show (2 : Nat) = 2 ^ 1 from rfl, Nat.testBit_two_pow]
  have t2 : (ex1 (b.1 a)).testBit w = ((b.1 a).testBit w && !(decide (w = 1))) := by
    unfold ex1
    rw [mkN_tb, decide_eq_true hw, Bool.true_and]
  rw [t1, t2]
  by_cases c : (b.1 a).testBit w = true
  · by_cases e : w = 1
    · subst e
      rw [c]
      simp
    · have fe : Fw h u w = Fw h u 0 := by
        funext k t
        unfold Fw
        rw [if_neg e, if_neg (by decide)]
      rw [c, fe, decide_eq_false (p := 1 = w) (fun z => e z.symm), decide_eq_false e]
      simp
  · have c' : (b.1 a).testBit w = false := by simpa using c
    rw [c']
    simp
theorem at_0 (K j : Nat) (P : Nat → Nat) : AT K 0 j P 8 = 0 := cs_0 (fun w _ => by rw [Nat.zero_testBit]; rfl)
def SS (h : Nat → Nat) (a u : Nat) (L : List ((Nat → Nat) × (Nat → Nat → Bool))) (j : Nat) : Nat := sm (fun b => ST h a u b j) L
def P8 (h : Nat → Nat) (u : Nat) (d : DD) : Prop := ∀ k, k < h 0 → d.2 79 k = mkL (Fw h u 0 k) ∧ d.2 80 k = mkL (Fw h u 1 k)
theorem sp68 {h nm} {d0 : DD} (V : VH h) (H : HC 2 d0 h nm) {first : Nat} {L : List ((Nat → Nat) × (Nat → Nat → Bool))} (X : GX h d0 first L) {a u : Nat} (ha : a < h 1) (P : P8 h u d0) : ∀ (m i f : Nat) (d : DD) (S : Nat → Nat), i + m = L.length → m < f → FR [81, 82] d0 d → (∀ j, j < 8 → d.2 82 j = lN (S j)) → OW (f_X8_spread_68 f (nI a) (nI (first + i)) d) (fun _ d' => FR [81, 82] d0 d' ∧ ∀ j, j < 8 → d'.2 82 j = lN (S j + SS h a u (L.drop i) j)) := by
  have X4 := X.2.2.2.1
  intro m
  induction m with
  | zero =>
    intro i f d S hi hf F G
    cases f with
    | zero => omega
    | succ f =>
      show OW (f_X8_spread_68B (f_X8_spread_68 f) _ _ _) _
      unfold f_X8_spread_68B
      rw [(gx_fr X F (by decide) (by decide) (by decide)).2.2.1, if_neg (by rw [nI_ltI (by omega) (by omega)]; omega), List.drop_eq_nil_of_le (by omega)]
      exact ow_ret ⟨F, G⟩
  | succ m ih =>
    intro i f d S hi hf F G
    cases f with
    | zero => omega
    | succ f =>
      show OW (f_X8_spread_68B (f_X8_spread_68 f) _ _ _) _
      unfold f_X8_spread_68B
      have hil : i < L.length := by omega
      have e : L[i]? = some L[i] := List.getElem?_eq_getElem hil
      have hb := X.2.2.2.2 L[i] (List.mem_of_getElem? e) a
      have XX := gx_fr X F (by decide) (by decide) (by decide)
      have HH := hc_fr H F (by decide)
      have PP : P8 h u d := fun k hk => by rw [(F 79 (by decide)).2, (F 80 (by decide)).2]; exact P k hk
      have ds : SS h a u (L.drop i) = fun j => ST h a u L[i] j + SS h a u (L.drop (i + 1)) j := by
        funext j
        rw [drop_cons e]
        rfl
      have e1l : ex1 (L[i].1 a) < 2 ^ 8 := mkN_lt 8 _
      have l2 : L[i].1 a &&& 2 ≤ 2 := Nat.and_le_right
      have step2 : ∀ (d1 : DD) (S1 : Nat → Nat), FR [81, 82] d0 d1 → (∀ j, j < 8 → d1.2 82 j = lN (S1 j)) → (∀ j, S1 j + AT (h 0) (ex1 (L[i].1 a)) j (QP (pn (WB L[i] (nI a)) (h 1)) (yK L[i] (Fw h u 0)) (nK L[i] (Fw h u 0)) (h 0)) 8 = S j + ST h a u L[i] j) → OW (f_X8_spread_120 (f_X8_spread_68 f) (nI a) (nI (first + i)) (nI (ex1 (L[i].1 a))) d1) (fun _ d' => FR [81, 82] d0 d' ∧ ∀ j, j < 8 → d'.2 82 j = lN (S j + SS h a u (L.drop i) j)) := by
        intro d1 S1 F1 G1 E1
        have fin : ∀ d2, FR [81, 82] d0 d2 → (∀ j, j < 8 → d2.2 82 j = lN (S j + ST h a u L[i] j)) → OW (f_X8_spread_68 f (nI a) (nI (first + i + 1)) d2) (fun _ d' => FR [81, 82] d0 d' ∧ ∀ j, j < 8 → d'.2 82 j = lN (S j + SS h a u (L.drop i) j)) := by
          intro d2 F2 G2
          rw [Nat.add_assoc]
          refine ow_mono (ih (i + 1) f d2 (fun j => S j + ST h a u L[i] j) (by omega) (by omega) F2 G2) ?_
          intro _ d3 H3
          refine ⟨H3.1, fun j hj => ?_⟩
          rw [H3.2 j hj, ds, Nat.add_assoc]
        unfold f_X8_spread_120
        rw [nI_1]
        by_cases z : ex1 (L[i].1 a) = 0
        · rw [if_pos (by rw [z]; rfl)]
          refine fin d1 F1 (fun j hj => ?_)
          rw [G1 j hj, ← E1 j, z, at_0, Nat.add_zero]
        · rw [if_neg (show ¬ nI (ex1 (L[i].1 a)) = 0 from fun q => z ((nI_eq (by omega) (by omega)).mp (show nI _ = nI 0 from q)))]
          have P1 : P8 h u d1 := fun k hk => by rw [(F1 79 (by decide)).2, (F1 80 (by decide)).2]; exact P k hk
          refine ow_call (e_divide V (hc_fr H F1 (by decide)) (gx_fr X F1 (by decide) (by decide) (by decide)) e (p := 79) (by decide) ln_79 (fun k hk => (P1 k hk).1) (nI a)) ?_
          intro _ d2 H2
          refine ow_call (e_addTold V (hc_fr (hc_fr H F1 (by decide)) H2.1 (by decide)) H2.2 (S := S1) (fun j hj => by rw [(H2.1 82 (by decide)).2]; exact G1 j hj) e1l) ?_
          intro _ d3 H3
          refine fin d3 (fr_trans F1 (fr_trans (fr_mono H2.1 (by decide)) (fr_mono H3.1 (by decide)))) (fun j hj => ?_)
          rw [H3.2 j hj, E1 j]
      rw [XX.2.2.1, if_pos (by rw [nI_ltI (by omega) (by omega)]; omega), e_waysIn V XX e ha, ob_e, bd_e]
      dsimp only
      rw [e_waysIn V XX e ha, ob_e, bd_e]
      dsimp only
      rw [show (2 : Int32) = nI 2 from rfl, nx_and, show (-1 : Int32) = mI from rfl, ex1_e hb]
      by_cases z : L[i].1 a &&& 2 = 0
      · rw [if_pos (by rw [z]; rfl)]
        refine step2 d S F G (fun j => ?_)
        rw [at_late hb j, z, at_0, Nat.zero_add]
      · rw [if_neg (show ¬ nI (L[i].1 a &&& 2) = 0 from fun q => z ((nI_eq (by omega) (by omega)).mp (show nI _ = nI 0 from q)))]
        refine ow_call (e_divide V HH XX e (p := 80) (by decide) ln_80 (fun k hk => (PP k hk).2) (nI a)) ?_
        intro _ d2 H2
        refine ow_call (e_addTold V (hc_fr HH H2.1 (by decide)) H2.2 (S := S) (fun j hj => by rw [(H2.1 82 (by decide)).2]; exact G j hj) (by omega)) ?_
        intro _ d3 H3
        refine step2 d3 _ (fr_trans F (fr_trans (fr_mono H2.1 (by decide)) (fr_mono H3.1 (by decide)))) H3.2 (fun j => ?_)
        rw [at_late hb j, Nat.add_assoc]
