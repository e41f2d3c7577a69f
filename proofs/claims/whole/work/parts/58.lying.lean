-- PURE ROWS: lying, clash
def al0 (q : Nat → Bool) (a : Nat) : Nat → Bool
  | 0 => true
  | j + 1 => al0 q a j && (!(q j) || j.testBit a)
def so0 (q : Nat → Bool) (a : Nat) : Nat → Bool
  | 0 => false
  | j + 1 => so0 q a j || (q j && j.testBit a)
theorem al0_iff {q : Nat → Bool} {a : Nat} : ∀ {n : Nat}, al0 q a n = true ↔ ∀ j, j < n → q j = true → j.testBit a = true
  | 0 => ⟨fun _ j hj => absurd hj (Nat.not_lt_zero j), fun _ => rfl⟩
  | n + 1 => by
    unfold al0
    rw [Bool.and_eq_true, al0_iff]
    constructor
    · rintro ⟨h1, h2⟩ j hj hq
      by_cases e : j = n
      · subst e
        rw [hq] at h2
        simpa using h2
      · exact h1 j (by omega) hq
    · intro z
      refine ⟨fun j hj hq => z j (by omega) hq, ?_⟩
      cases c : q n
      · rfl
      · rw [z n (by omega) c]
        rfl
theorem so0_iff {q : Nat → Bool} {a : Nat} : ∀ {n : Nat}, so0 q a n = true ↔ ∃ j, j < n ∧ q j = true ∧ j.testBit a = true
  | 0 => ⟨fun z => (by cases z), fun ⟨j, hj, _⟩ => absurd hj (Nat.not_lt_zero j)⟩
  | n + 1 => by
    unfold so0
    rw [Bool.or_eq_true, so0_iff, Bool.and_eq_true]
    constructor
    · rintro (⟨j, hj, a, b⟩ | ⟨a, b⟩)
      · exact ⟨j, by omega, a, b⟩
      · exact ⟨n, by omega, a, b⟩
    · rintro ⟨j, hj, a, b⟩
      by_cases e : j = n
      · subst e
        exact Or.inr ⟨a, b⟩
      · exact Or.inl ⟨j, by omega, a, b⟩
theorem cpl {P : Nat} (hP : P ≤ 4) (S : Nat → Bool) : (nI (2 ^ P) - nI 1) &&& (nI (mkN P S) ^^^ mI) = nI (mkN P (fun a => !(S a))) := by
  rw [pk_sub (Nat.one_le_two_pow)]
  apply b_ext
  intro i hi
  rw [b_and, b_xor, bt_nI hi, bt_nI hi, bt_nI hi, show mI = (-1 : Int32) from rfl, b_m1 i hi, Nat.testBit_two_pow_sub_one, mkN_tb, mkN_tb]
  by_cases c : i < P
  · rw [decide_eq_true c]
    cases S i <;> rfl
  · rw [decide_eq_false c]
    rfl
theorem e1_88 : ixb (1 : Int32) (ln 88) := (ix_nI (n := 1) (by omega)).mpr (by rw [ln_88]; omega)
theorem m_lying {h : Nat → Nat} {d : DD} (V : VH h) (M : HM d h) {q : Nat → Bool} (hq : ∀ j, j < 16 → d.1 101 j = bI (q j)) (hP : ∀ j, j < 16 → q j = true → j < 2 ^ h 1) (w : Int32) : ∀ (m j f : Nat), j + m = 16 → m < f → f_X10_lying_39 f w (nI (mkN (h 1) (fun a => al0 q a j))) (nI (mkN (h 1) (fun a => so0 q a j))) (nI j) d = some (if w = 0 then nI (mkN (h 1) (fun a => al0 q a 16)) else nI (mkN (h 1) (fun a => !(so0 q a 16))), d) := by
  have v1 := V.2.1
  intro m
  induction m with
  | zero =>
    intro j f hi hf
    cases f with
    | zero => omega
    | succ f =>
      show f_X10_lying_39B (f_X10_lying_39 f) _ _ _ _ _ = _
      unfold f_X10_lying_39B
      rw [if_neg (by rw [nI_lit, nI_ltI (by omega) (by omega)]; omega), show j = 16 by omega]
      by_cases c : w = 0
      · rw [if_pos c, if_pos c]
      · rw [if_neg c, if_neg c, if_pos e1_88]
        have m1 : d.1 88 (1 : Int32).toNatClampNeg = nI (h 1) := M.1 1
        rw [m1]
        simp only [↓mI_lit, nI_lit]
        rw [q_shl (by omega), cpl v1]
  | succ m ih =>
    intro j f hi hf
    cases f with
    | zero => omega
    | succ f =>
      show f_X10_lying_39B (f_X10_lying_39 f) _ _ _ _ _ = _
      unfold f_X10_lying_39B
      have s := ih (j + 1) f (by omega) (by omega)
      rw [if_pos (by rw [nI_lit, nI_ltI (by omega) (by omega)]; omega), if_pos ((ix_nI (by omega)).mpr (by rw [ln_101]; omega)), nI_clamp (by omega), hq j (by omega)]
      cases c : q j
      · rw [if_pos (by decide), nI_1, ← s]
        have e1 : (fun a => al0 q a (j + 1)) = fun a => al0 q a j := by
          funext a
          show (al0 q a j && (!(q j) || j.testBit a)) = _
          rw [c]
          simp
        have e2 : (fun a => so0 q a (j + 1)) = fun a => so0 q a j := by
          funext a
          show (so0 q a j || (q j && j.testBit a)) = _
          rw [c]
          simp
        rw [e1, e2]
      · rw [if_neg (by decide), bd_e, bd_e, nx_and, nx_or, mkN_and, mkN_or (hP j (by omega) c), nI_1, ← s]
        have e1 : (fun a => al0 q a (j + 1)) = fun a => al0 q a j && j.testBit a := by
          funext a
          show (al0 q a j && (!(q j) || j.testBit a)) = _
          rw [c]
          rfl
        have e2 : (fun a => so0 q a (j + 1)) = fun a => so0 q a j || j.testBit a := by
          funext a
          show (so0 q a j || (q j && j.testBit a)) = _
          rw [c]
          rfl
        rw [e1, e2]
def lyb (L : List ((Nat → Nat) × (Nat → Nat → Bool))) (w : Int32) (a : Nat) : Bool := if w = 0 then !(pw8 L a 0) else decide (mkN 8 (pw8 L a) = 1)
theorem c_lying {h nm} {d : DD} (V : VH h) (H : HC 2 d h nm) {first : Nat} {L : List ((Nat → Nat) × (Nat → Nat → Bool))} (X : GX h d first L) (w : Int32) : ∀ (m a f : Nat), a + m = h 1 → m < f → f_X9_lying_34 f w (nI (mkN a (lyb L w))) (nI a) d = some (nI (mkN (h 1) (lyb L w)), d) := by
  have v1 := V.2.1
  intro m
  induction m with
  | zero =>
    intro a f hi hf
    cases f with
    | zero => omega
    | succ f =>
      show f_X9_lying_34B (f_X9_lying_34 f) _ _ _ _ = _
      unfold f_X9_lying_34B
      rw [hc_p H, if_neg (by rw [nI_ltI (by omega) (by omega)]; omega), show a = h 1 by omega]
  | succ m ih =>
    intro a f hi hf
    cases f with
    | zero => omega
    | succ f =>
      show f_X9_lying_34B (f_X9_lying_34 f) _ _ _ _ = _
      unfold f_X9_lying_34B
      have s := ih (a + 1) f (by omega) (by omega)
      rw [mkN] at s
      have m8 := mkN_lt 8 (pw8 L a)
      have fin : ∀ b : Bool, b = lyb L w a → f_X9_lying_85 (f_X9_lying_34 f) w (nI (mkN a (lyb L w))) (nI a) (bI b) d = some (nI (mkN (h 1) (lyb L w)), d) := by
        intro b hb
        unfold f_X9_lying_85
        cases b
        · rw [← hb, if_neg (by decide)] at s
          rw [if_pos (by decide), nI_1]
          exact s
        · rw [← hb, if_pos rfl] at s
          rw [if_neg (by decide), bd_e, nI_1]
          simp only [nI_lit]
          rw [q_shl (by omega), nx_or, mkN_top]
          exact s
      rw [hc_p H, if_pos (by rw [nI_ltI (by omega) (by omega)]; omega), e_possibleWays V X (by omega), ob_e]
      dsimp only
      by_cases c : w = 0
      · rw [if_pos c]
        have tb : (mkN 8 (pw8 L a)).testBit 0 = pw8 L a 0 := by rw [mkN_tb, decide_eq_true (by omega), Bool.true_and]
        by_cases e : pw8 L a 0 = false
        · rw [if_pos (nx_and1.mpr (by rw [tb]; exact e))]
          exact fin true (by unfold lyb; rw [if_pos c, e]; rfl)
        · have e' : pw8 L a 0 = true := by simpa using e
          rw [if_neg (fun z => e (by rw [← tb]; exact nx_and1.mp z))]
          exact fin false (by unfold lyb; rw [if_pos c, e']; rfl)
      · rw [if_neg c]
        by_cases e : mkN 8 (pw8 L a) = 1
        · rw [if_pos (by rw [e]; rfl)]
          exact fin true (by unfold lyb; rw [if_neg c, decide_eq_true e])
        · rw [if_neg (show ¬ nI (mkN 8 (pw8 L a)) = 1 from fun z => e ((nI_eq (by omega) (by omega)).mp (show nI (mkN 8 (pw8 L a)) = nI 1 from z)))]
          exact fin false (by unfold lyb; rw [if_neg c, decide_eq_false e])
theorem lz_p {h : Nat → Nat} {n j : Nat} (hj : lz h n j (cm h (h 1)) = true) : j < 2 ^ h 1 := by
  rw [lz_ex] at hj
  obtain ⟨c, _, _, e⟩ := hj
  rw [← of_decide_eq_true e]
  exact mkN_lt _ _
theorem ly_eq {h : Nat → Nat} {n : Nat} {L : List ((Nat → Nat) × (Nat → Nat → Bool))} (V : VH h) (I : LI h n (h 1) L) (hL : L ≠ []) {a : Nat} (ha : a < h 1) (w : Int32) : lyb L w a = if w = 0 then al0 (fun j => lz h n j (cm h (h 1))) a 16 else !(so0 (fun j => lz h n j (cm h (h 1))) a 16) := by
  have v1 := V.2.1
  have lmtb : ∀ c : Nat → Nat, (lm h c).testBit a = decide (0 < c a) := fun c => by
    unfold lm
    rw [mkN_tb, decide_eq_true ha, Bool.true_and]
  unfold lyb
  by_cases c : w = 0
  · rw [if_pos c, if_pos c]
    rw [Bool.eq_iff_iff, al0_iff]
    constructor
    · intro z j hj hq
      rw [lz_ex, ex_link V I] at hq
      obtain ⟨b, hb, cc, hc, e⟩ := hq
      rw [← of_decide_eq_true e, lmtb]
      apply decide_eq_true
      apply Nat.pos_of_ne_zero
      intro q
      have tb := (cb_bits hc).1 a ha
      rw [q] at tb
      have : pw8 L a 0 = true := List.any_eq_true.mpr ⟨b, hb, tb⟩
      rw [this] at z
      cases z
    · intro z
      cases r : pw8 L a 0
      · rfl
      · exfalso
        obtain ⟨b, hb, tb⟩ := List.any_eq_true.mp r
        have := z (stb h b) (stb_lt V b) (cz_lz V I (List.any_eq_true.mpr ⟨b, hb, decide_eq_true rfl⟩))
        unfold stb at this
        rw [mkN_tb, decide_eq_true ha, Bool.true_and, tb] at this
        cases this
  · rw [if_neg c, if_neg c]
    rw [Bool.eq_iff_iff]
    constructor
    · intro z
      have z1 := of_decide_eq_true z
      cases r : so0 (fun j => lz h n j (cm h (h 1))) a 16
      · rfl
      · exfalso
        obtain ⟨j, hj, hq, hb⟩ := so0_iff.mp r
        rw [lz_ex, ex_link V I] at hq
        obtain ⟨b, hbm, cc, hc, e⟩ := hq
        rw [← of_decide_eq_true e, lmtb] at hb
        have pos := of_decide_eq_true hb
        have tb := (cb_bits hc).1 a ha
        have b8 := bit8 (I.1 b hbm a) tb
        have : (mkN 8 (pw8 L a)).testBit (cc a) = true := by
          rw [mkN_tb, decide_eq_true b8, Bool.true_and]
          exact List.any_eq_true.mpr ⟨b, hbm, tb⟩
        rw [z1, show (1 : Nat) = 2 ^ 0 from rfl, Nat.testBit_two_pow] at this
        have := of_decide_eq_true this
        omega
    · intro z
      apply decide_eq_true
      apply Nat.eq_of_testBit_eq
      intro i
      rw [mkN_tb, show (1 : Nat) = 2 ^ 0 from rfl, Nat.testBit_two_pow]
      have no : ∀ b, b ∈ L → ∀ v, 0 < v → (b.1 a).testBit v = false := by
        intro b hb v hv
        cases r : (b.1 a).testBit v
        · rfl
        · exfalso
          have v8 := bit8 (I.1 b hb a) r
          have ex : ∃ cc, cc ∈ cb h b.1 (h 1) ∧ decide (0 < cc a) = true := by
            refine ⟨_, cb_mem (f := fun i => if i = a then v else (fl (fun v => (b.1 i).testBit v) 8 0).head?.getD 0) (fun i hi => ?_), ?_⟩
            · by_cases e : i = a
              · rw [if_pos e, e]
                exact ⟨v8, r⟩
              · rw [if_neg e]
                obtain ⟨v', hv'⟩ := ((I.2.2 b hb).2.2.2 i hi).1
                have v8' := bit8 (I.1 b hb i) hv'
                have mem : v' ∈ fl (fun v => (b.1 i).testBit v) 8 0 := (fl_mem _ _ _ _).mpr ⟨Nat.zero_le _, by omega, hv'⟩
                cases q : fl (fun v => (b.1 i).testBit v) 8 0 with
                | nil => rw [q] at mem; cases mem
                | cons x l =>
                  have : x ∈ fl (fun v => (b.1 i).testBit v) 8 0 := by rw [q]; exact List.mem_cons_self
                  have m := (fl_mem _ _ _ _).mp this
                  exact ⟨by show x < 8; omega, m.2.2⟩
            · simp only [if_pos ha, if_true]
              exact decide_eq_true hv
          obtain ⟨cc, hc, hp⟩ := ex
          have nzc : ∃ c, c ∈ cm h (h 1) ∧ nz h n c = true ∧ decide (0 < c a) = true := (ex_link V I (fun c => decide (0 < c a))).mpr ⟨b, hb, cc, hc, hp⟩
          obtain ⟨c0, m0, n0, p0⟩ := nzc
          have : so0 (fun j => lz h n j (cm h (h 1))) a 16 = true := so0_iff.mpr ⟨lm h c0, lm_lt V c0, lz_ex.mpr ⟨c0, m0, n0, decide_eq_true rfl⟩, by rw [lmtb]; exact p0⟩
          rw [this] at z
          cases z
      by_cases e : 0 = i
      · subst e
        rw [decide_eq_true (by omega), decide_eq_true rfl, Bool.true_and]
        cases L with
        | nil => exact absurd rfl hL
        | cons b l =>
          obtain ⟨v, hv⟩ := ((I.2.2 b List.mem_cons_self).2.2.2 a ha).1
          have v0 : v = 0 := by
            apply Nat.eq_zero_of_not_pos
            intro p
            rw [no b List.mem_cons_self v p] at hv
            cases hv
          rw [v0] at hv
          exact List.any_eq_true.mpr ⟨b, List.mem_cons_self, hv⟩
      · rw [decide_eq_false e]
        have : pw8 L a i = false := by
          cases r : pw8 L a i
          · rfl
          · obtain ⟨b, hb, tb⟩ := List.any_eq_true.mp r
            rw [no b hb i (by omega)] at tb
            cases tb
        rw [this, Bool.and_false]
theorem q_lying {h nm} {d : DD} (V : VH h) (H : HC 2 d h nm) (M : HM d h) (x : Int32) : ∃ r d1 d2, f_X9_lying x d = some (r, d1) ∧ f_X10_lying x d1 = some (r, d2) ∧ FQ d d2 := by
  have v1 := V.2.1
  rcases ix_dec x (n := 2) (by omega) with ⟨w, hw, rfl⟩ | c
  · have ct := ixt hw (by omega)
    have c1 : ¬ nI w < 0 := nI_pos (by omega)
    have c2 : ¬ (1 : Int32) < nI w := by rw [show (1 : Int32) = nI 1 from rfl, nI_ltI (by omega) (by omega)]; omega
    refine eq2 (if GS h (h 169) FT = 0 then mI else nI (mkN (h 1) (fun a => if nI w = 0 then al0 (fun j => lz h (h 169) j (cm h (h 1))) a 16 else !(so0 (fun j => lz h (h 169) j (cm h (h 1))) a 16)))) ?_ (fun d1 F => ?_)
    · unfold f_X9_lying
      simp only [c1, c2, ↓reduceIte]
      refine c_gather V H ?_
      intro d1 first L F1 H1 X I
      simp only [ob_e, bd_e, ↓reduceIte, one_ne, zro_eq, bI_t0, bI_f0, decide_true, decide_false, c_isEmpty V X I]
      by_cases e : GS h (h 169) FT = 0
      · simp only [ob_e, bd_e, ↓reduceIte, one_ne, zro_eq, bI_t0, bI_f0, decide_true, decide_false, eq_true e]
        exact ow_ret ⟨fq72 (fr_mono F1 (by decide)), rfl⟩
      · have hL : L ≠ [] := fun z => e ((gs_nil V I).mpr z)
        simp only [ob_e, bd_e, ↓reduceIte, one_ne, zro_eq, bI_t0, bI_f0, decide_true, decide_false, eq_false e]
        refine ⟨_, _, c_lying V H1 X (nI w) (h 1) 0 FU (by omega) (by unfold FU; omega), fq72 (fr_mono F1 (by decide)), ?_⟩
        rw [mkN_congr (fun a ha => ly_eq V I hL ha (nI w))]
    · have M0 := hm_fq (hm_fq M F) (fq_thr d1 0)
      have ei := e_X10_isIn0 (x := nI w) (n := 2) (by omega) (u1 d1 86 0 0)
      rw [show nI 0 = (0 : Int32) from rfl, show pI 2 = (1 : Int32) from rfl] at ei
      unfold f_X10_lying
      simp only [ob_e, bd_e, ↓reduceIte, one_ne, zro_eq, bI_t0, bI_f0, decide_true, decide_false, ei, eq_true ct]
      refine m_lies V M0 ?_
      intro d2 F2 M2 J2
      by_cases e : GS h (h 169) FT = 0
      · simp only [ob_e, bd_e, ↓reduceIte, one_ne, zro_eq, bI_t0, bI_f0, decide_true, decide_false, eq_true e, not_true_eq_false]
        exact ow_ret ⟨fq_trans (fq_thr d1 0) (fq96 (fr_mono F2 (by decide))), rfl⟩
      · simp only [ob_e, bd_e, ↓reduceIte, one_ne, zro_eq, bI_t0, bI_f0, decide_true, decide_false, eq_false e, not_false_eq_true]
        have m1 : d2.1 88 (1 : Int32).toNatClampNeg = nI (h 1) := M2.1 1
        rw [if_pos e1_88, m1]
        have s0 : (1 : Int32) <<< (nI (h 1) &&& 31) - 1 = nI (mkN (h 1) (fun a => al0 (fun j => lz h (h 169) j (cm h (h 1))) a 0)) := by
          have a1 : mkN (h 1) (fun a => al0 (fun j => lz h (h 169) j (cm h (h 1))) a 0) = 2 ^ h 1 - 1 := by
            apply Nat.eq_of_testBit_eq
            intro i
            rw [mkN_tb, Nat.testBit_two_pow_sub_one]
            exact Bool.and_true _
          rw [a1, ← pk_sub (Nat.one_le_two_pow)]
          show nI 1 <<< (nI (h 1) &&& nI 31) - nI 1 = _
          rw [q_shl (by omega)]
        have s1 : (0 : Int32) = nI (mkN (h 1) (fun a => so0 (fun j => lz h (h 169) j (cm h (h 1))) a 0)) := by
          rw [show (fun a => so0 (fun j => lz h (h 169) j (cm h (h 1))) a 0) = fun _ => false from rfl, ← mkN_0]
          rfl
        have ml := m_lying V M2 J2 (fun j _ q => lz_p q) (nI w) 16 0 FU (by omega) (by unfold FU; omega)
        rw [← s0, ← s1] at ml
        refine ⟨_, _, ml, fq_trans (fq_thr d1 0) (fq96 (fr_mono F2 (by decide))), ?_⟩
        by_cases c : nI w = 0
        · simp only [if_pos c]
        · simp only [if_neg c]
  · refine eq2 mI ?_ (fun d1 F => ?_)
    · unfold f_X9_lying
      rcases nix (by omega) (by omega) c with q | ⟨q1, q2⟩
      · simp only [eq_true q, ↓reduceIte]
        exact ow_ret ⟨fq_refl _, rfl⟩
      · have q3 : (1 : Int32) < x := q2
        simp only [q1, eq_true q3, ↓reduceIte]
        exact ow_ret ⟨fq_refl _, rfl⟩
    · have ei := e_X10_isIn0 (x := x) (n := 2) (by omega) (u1 d1 86 0 0)
      rw [show nI 0 = (0 : Int32) from rfl, show pI 2 = (1 : Int32) from rfl] at ei
      unfold f_X10_lying
      simp only [ob_e, bd_e, ↓reduceIte, one_ne, zro_eq, bI_t0, bI_f0, decide_true, decide_false, ei, eq_false c]
      exact ow_ret ⟨fq_thr d1 0, rfl⟩
-- clash
theorem wa_mono {h : Nat → Nat} {n : Nat} {c : Nat → Nat} {k t : Nat} : ∀ {A : Nat}, wa h (n + 1) c k t A = true → wa h n c k t A = true
  | 0, _ => rfl
  | A + 1, e => by
    unfold wa at e ⊢
    rw [Bool.and_eq_true] at e ⊢
    refine ⟨wa_mono e.1, ?_⟩
    have e2 := e.2
    unfold LM hd at e2
    unfold LM
    rw [Bool.and_eq_true, Bool.and_eq_true] at e2
    rw [Bool.and_eq_true]
    exact ⟨e2.1, e2.2.1⟩
theorem gs_mono1 {h : Nat → Nat} (n : Nat) : GS h (n + 1) FT ≤ GS h n FT := by
  unfold GS
  apply sm_le
  intro c _
  apply pn_le
  intro k _
  rw [pc_ft, pc_ft]
  unfold WC
  apply cnt_mono
  intro t _ e
  unfold WM at e ⊢
  rw [Bool.and_eq_true] at e ⊢
  exact ⟨e.1, wa_mono e.2⟩
theorem gs_mono {h : Nat → Nat} {m n : Nat} (hm : m ≤ n) : GS h n FT ≤ GS h m FT := by
  obtain ⟨j, rfl⟩ := Nat.exists_eq_add_of_le hm
  induction j with
  | zero => exact Nat.le_refl _
  | succ j ih => exact Nat.le_trans (gs_mono1 (m + j)) (ih (by omega))
theorem c_fits {h nm} {d : DD} (V : VH h) (H : HC 2 d h nm) {n : Nat} (hn : n ≤ h 169) : OW (f_X9_fits (nI n) d) (fun r d1 => FR [72, 73, 74, 75, 76, 77] d d1 ∧ r = bI (decide (¬ GS h n FT = 0))) := by
  unfold f_X9_fits
  refine ow_call (e_gather V H hn) ?_
  intro _ d1 H1
  obtain ⟨first, L, X, I⟩ := gd_gx H1.2
  rw [c_isEmpty V X I, ob_e]
  dsimp only
  by_cases e : GS h n FT = 0
  · rw [decide_eq_true e, if_neg (by decide), decide_eq_false (fun z => z e)]
    exact ow_ret ⟨H1.1, rfl⟩
  · rw [decide_eq_false e, if_pos (by decide), decide_eq_true e]
    exact ow_ret ⟨H1.1, rfl⟩
def CX (h : Nat → Nat) (i : Nat) : Prop := GS h (i + 1) FT = 0 ∧ ∀ j, j ≤ i → ¬ GS h j FT = 0
theorem c_clash {h nm} {d0 : DD} (V : VH h) (H : HC 2 d0 h nm) : ∀ (m s f lo hi : Nat) (d : DD), s + m = 40 → m < f → FR [72, 73, 74, 75, 76, 77] d0 d → lo < hi → hi ≤ h 169 → hi - lo ≤ m + 1 → GS h hi FT = 0 → (0 < lo → ¬ GS h lo FT = 0) → OW (f_X9_clash_25 f (nI lo) (nI hi) (nI s) d) (fun r d1 => FR [72, 73, 74, 75, 76, 77] d0 d1 ∧ ∃ i, r = nI i ∧ i < h 169 ∧ GS h (i + 1) FT = 0 ∧ (0 < i → ¬ GS h i FT = 0)) := by
  have v2 := V.2.2.2.2.2.2.2.1
  intro m
  induction m with
  | zero =>
    intro s f lo hi d hs hf F a b c g1 g2
    cases f with
    | zero => omega
    | succ f =>
      show OW (f_X9_clash_25B (f_X9_clash_25 f) _ _ _ _) _
      unfold f_X9_clash_25B
      rw [if_neg (by rw [nI_lit, nI_ltI (by omega) (by omega)]; omega), show (1 : Int32) = nI 1 from rfl, pk_sub (by omega)]
      refine ow_ret ⟨F, hi - 1, rfl, by omega, by rw [show hi - 1 + 1 = hi by omega]; exact g1, fun z => ?_⟩
      rw [show hi - 1 = lo by omega] at z ⊢
      exact g2 z
  | succ m ih =>
    intro s f lo hi d hs hf F a b c g1 g2
    cases f with
    | zero => omega
    | succ f =>
      show OW (f_X9_clash_25B (f_X9_clash_25 f) _ _ _ _) _
      unfold f_X9_clash_25B
      rw [if_pos (by rw [nI_lit, nI_ltI (by omega) (by omega)]; omega)]
      simp only [nI_lit]
      rw [pk_sub (show lo ≤ hi by omega), nI_add, q_div (by omega) (by omega) (by omega), nI_add]
      by_cases q : 1 < hi - lo
      · rw [if_pos (by rw [nI_ltI (by omega) (by omega)]; exact q), bd_e]
        refine ow_call (c_fits V (hc_fr H F (by decide)) (n := (lo + hi) / 2) (by omega)) ?_
        intro r d1 H1
        obtain ⟨F1, rfl⟩ := H1
        by_cases e : GS h ((lo + hi) / 2) FT = 0
        · rw [decide_eq_false (fun z => z e)]
          show OW (if bI false = nI 0 then _ else _) _
          rw [if_pos (by decide)]
          exact ih (s + 1) f lo ((lo + hi) / 2) d1 (by omega) (by omega) (fr_trans F F1) (by omega) (by omega) (by omega) e g2
        · rw [decide_eq_true e]
          show OW (if bI true = nI 0 then _ else _) _
          rw [if_neg (by decide)]
          exact ih (s + 1) f ((lo + hi) / 2) hi d1 (by omega) (by omega) (fr_trans F F1) (by omega) (by omega) (by omega) g1 (fun _ => e)
      · rw [if_neg (by rw [nI_ltI (by omega) (by omega)]; exact q), pk_sub (by omega)]
        refine ow_ret ⟨F, hi - 1, rfl, by omega, by rw [show hi - 1 + 1 = hi by omega]; exact g1, fun z => ?_⟩
        rw [show hi - 1 = lo by omega] at z ⊢
        exact g2 z
theorem m_clash {h : Nat → Nat} {d0 : DD} (V : VH h) (M : HM d0 h) : ∀ (m i f : Nat) (d : DD), i + m = h 169 → m < f → FR [96, 97, 98] d0 d → (∀ j, j < i → ¬ GS h (j + 1) FT = 0) → OW (f_X10_clash_7 f (nI i) d) (fun r d1 => FR [96, 97, 98] d0 d1 ∧ ((r = mI ∧ ∀ j, j < h 169 → ¬ GS h (j + 1) FT = 0) ∨ ∃ i, r = nI i ∧ i < h 169 ∧ GS h (i + 1) FT = 0 ∧ ∀ j, j < i → ¬ GS h (j + 1) FT = 0)) := by
  have v2 := V.2.2.2.2.2.2.2.1
  intro m
  induction m with
  | zero =>
    intro i f d hs hf F g
    cases f with
    | zero => omega
    | succ f =>
      show OW (f_X10_clash_7B (f_X10_clash_7 f) _ _) _
      unfold f_X10_clash_7B
      have MM := hm_fr M F (by decide) (by decide) (by decide)
      have m169 : d.1 88 (169 : Int32).toNatClampNeg = nI (h 169) := MM.1 169
      rw [if_pos e169, m169, if_neg (by rw [nI_ltI (by omega) (by omega)]; omega)]
      exact ow_ret ⟨F, Or.inl ⟨rfl, fun j hj => g j (by omega)⟩⟩
  | succ m ih =>
    intro i f d hs hf F g
    cases f with
    | zero => omega
    | succ f =>
      show OW (f_X10_clash_7B (f_X10_clash_7 f) _ _) _
      unfold f_X10_clash_7B
      have MM := hm_fr M F (by decide) (by decide) (by decide)
      have m169 : d.1 88 (169 : Int32).toNatClampNeg = nI (h 169) := MM.1 169
      rw [if_pos e169, m169, if_pos (by rw [nI_ltI (by omega) (by omega)]; omega), nI_1]
      refine ow_call (e_X10_worldsBy V MM (n := i + 1) (by omega)) ?_
      intro r d1 H1
      obtain ⟨F1, rfl⟩ := H1
      simp only [gs0 V]
      by_cases e : GS h (i + 1) FT = 0
      · rw [if_pos e]
        exact ow_ret ⟨fr_trans F F1, Or.inr ⟨i, rfl, by omega, e, g⟩⟩
      · rw [if_neg e]
        refine ih (i + 1) f d1 (by omega) (by omega) (fr_trans F F1) (fun j hj => ?_)
        by_cases q : j = i
        · rw [q]; exact e
        · exact g j (by omega)
theorem cm_ne {h : Nat → Nat} (V : VH h) : cm h (h 1) ≠ [] := by
  obtain ⟨l, e⟩ := cm_head V (h 1) (Nat.le_refl _)
  rw [e]
  simp
theorem gs_zero {h : Nat → Nat} (V : VH h) : ¬ GS h 0 FT = 0 := by
  have v0 := V.1
  obtain ⟨l, e⟩ := cm_head V (h 1) (Nat.le_refl _)
  have hw : ∀ A c k t, k < h 0 → t < TT h k → wa h 0 c k t A = true := by
    intro A c k t hk ht
    induction A with
    | zero => rfl
    | succ A ih =>
      show (wa h 0 c k t A && LM h 0 A (c A) k t) = true
      rw [ih, Bool.true_and]
      show (decide (t < TT h k) && true) = true
      rw [decide_eq_true ht]
      rfl
  have p : 0 < GS h 0 FT := by
    unfold GS
    rw [e]
    refine sm_pos List.mem_cons_self (pn_pos (fun k hk => ?_))
    rw [pc_ft]
    have tp := tt_pos V hk
    refine cnt_pos (i := 0) (by omega) ?_
    unfold WM
    rw [decide_eq_true (by omega), hw _ _ k 0 hk (by omega)]
    rfl
  omega
theorem q_clash {h nm} {d : DD} (V : VH h) (H : HC 2 d h nm) (M : HM d h) : ∃ r d1 d2, f_X9_clash d = some (r, d1) ∧ f_X10_clash d1 = some (r, d2) ∧ FQ d d2 := by
  have v2 := V.2.2.2.2.2.2.2.1
  have sz := hc_sz H
  rw [rf_2_11] at sz
  have cl : OW (f_X9_clash d) (fun r d1 => FQ d d1 ∧ ((r = mI ∧ ¬ GS h (h 169) FT = 0) ∨ ∃ i, r = nI i ∧ i < h 169 ∧ GS h (i + 1) FT = 0 ∧ (0 < i → ¬ GS h i FT = 0))) := by
    unfold f_X9_clash
    rw [bd_e, sz]
    refine ow_call (c_fits V H (Nat.le_refl _)) ?_
    intro r d1 H1
    obtain ⟨F1, rfl⟩ := H1
    by_cases e : GS h (h 169) FT = 0
    · simp only [ob_e, bd_e, ↓reduceIte, one_ne, zro_eq, bI_t0, bI_f0, decide_true, decide_false, eq_true e, not_true_eq_false]
      have hp : 0 < h 169 := by
        apply Nat.pos_of_ne_zero
        intro z
        rw [z] at e
        exact gs_zero V e
      refine ow_mono (c_clash V (hc_fr H F1 (by decide)) 40 0 FU 0 (h 169) d1 (by omega) (by unfold FU; omega) (fr_refl _ _) hp (Nat.le_refl _) (by omega) e (fun z => absurd z (Nat.lt_irrefl 0))) ?_
      intro r d2 H2
      exact ⟨fq72 (fr_trans (fr_mono F1 (by decide)) (fr_mono H2.1 (by decide))), Or.inr H2.2⟩
    · simp only [ob_e, bd_e, ↓reduceIte, one_ne, zro_eq, bI_t0, bI_f0, decide_true, decide_false, eq_false e, not_false_eq_true]
      exact ow_ret ⟨fq72 (fr_mono F1 (by decide)), Or.inl ⟨rfl, trivial⟩⟩
  obtain ⟨r, d1, e1, F1, c1⟩ := cl
  have ml : OW (f_X10_clash d1) (fun r' d2 => FQ d1 d2 ∧ r' = r) := by
    have M0 := hm_fq (hm_fq M F1) (fq_thr d1 0)
    unfold f_X10_clash
    rw [bd_e]
    refine ow_mono (m_clash V M0 (h 169) 0 FU _ (by omega) (by unfold FU; omega) (fr_refl _ _) (fun j hj => by omega)) ?_
    intro r' d2 H2
    refine ⟨fq_trans (fq_thr d1 0) (fq96 (fr_mono H2.1 (by decide))), ?_⟩
    rcases H2.2 with ⟨rfl, g⟩ | ⟨i, rfl, hi, g, gj⟩
    · rcases c1 with ⟨rfl, _⟩ | ⟨i', _, hi', g', _⟩
      · rfl
      · exact absurd g' (g i' hi')
    · rcases c1 with ⟨_, g'⟩ | ⟨i', rfl, hi', g', gp⟩
      · have := gs_mono (h := h) (m := i + 1) (n := h 169) (by omega)
        omega
      · have : i = i' := by
          rcases Nat.lt_trichotomy i i' with z | z | z
          · exfalso
            have m1 := gs_mono (h := h) (m := i + 1) (n := i') (by omega)
            exact gp (by omega) (by omega)
          · exact z
          · exact absurd g' (gj i' z)
        rw [this]
  obtain ⟨r', d2, e2, F2, rfl⟩ := ml
  exact ⟨_, d1, d2, e1, e2, fq_trans F1 F2⟩
