-- PURE ROWS: the class's ahead; Euclid; odds, bet
theorem nhf_sp (lo t : Nat) : ∀ (m v : Nat), (∀ i, v ≤ i → i < nhf lo t m v → pa lo t i = false) ∧ v ≤ nhf lo t m v ∧ (nhf lo t m v < v + m → pa lo t (nhf lo t m v) = true)
  | 0, v => ⟨fun i h1 h2 => absurd h2 (by unfold nhf; omega), Nat.le_refl _, fun h => absurd h (by unfold nhf; omega)⟩
  | m + 1, v => by
    obtain ⟨h1, h2, h3⟩ := nhf_sp lo t m (v + 1)
    show (∀ i, v ≤ i → i < (if pa lo t v = true then v else nhf lo t m (v + 1)) → pa lo t i = false) ∧ v ≤ (if pa lo t v = true then v else nhf lo t m (v + 1)) ∧ ((if pa lo t v = true then v else nhf lo t m (v + 1)) < v + (m + 1) → pa lo t (if pa lo t v = true then v else nhf lo t m (v + 1)) = true)
    by_cases c : pa lo t v = true
    · rw [if_pos c]
      exact ⟨fun i a b => by omega, Nat.le_refl _, fun _ => c⟩
    · rw [if_neg c]
      refine ⟨fun i a b => ?_, by omega, fun h => h3 (by omega)⟩
      by_cases e : i = v
      · rw [e]
        simpa using c
      · exact h1 i (by omega) b
theorem nh_v {lo t u v : Nat} (hu : u ≤ v) (hv : v < 30) : nh lo t u < v + 1 ↔ (nh lo t u < v ∨ pa lo t v = true) := by
  obtain ⟨h1, h2, h3⟩ := nhf_sp lo t (30 - u) u
  unfold nh
  constructor
  · intro h
    by_cases e : nhf lo t (30 - u) u = v
    · right
      have := h3 (by omega)
      rw [e] at this
      exact this
    · left
      omega
  · rintro (h | h)
    · omega
    · apply Classical.byContradiction
      intro z
      rw [h1 v hu (by omega)] at h
      cases h
theorem nh_ge {lo t u : Nat} : u ≤ nh lo t u := (nhf_sp lo t (30 - u) u).2.1
def PAm (h : Nat → Nat) (u k v t : Nat) : Bool := decide (k < h 0) && (decide (t < TT h k) && decide (nh (h (2 + k)) t u < v))
def NOm (h : Nat → Nat) (k v t : Nat) : Bool := decide (k < h 0) && pb (h (2 + k)) (h (5 + k)) t v
def CFm (h : Nat → Nat) (x u v k t : Nat) : Bool := if k = x then NOm h k v t && !(PAm h u k v t) else !(NOm h k v t || PAm h u k v t)
theorem pam_s {h : Nat → Nat} {u k v t : Nat} (hu : u ≤ v) (hv : v < 30) : PAm h u k (v + 1) t = (NOm h k v t || PAm h u k v t) := by
  unfold PAm NOm pb TT
  have := nh_v (lo := h (2 + k)) (t := t) hu hv
  cases decide (k < h 0)
  · rfl
  · cases decide (t < tn (h (2 + k)) (h (5 + k)))
    · rfl
    · simp only [Bool.true_and]
      rw [Bool.eq_iff_iff, decide_eq_true_iff, this, Bool.or_eq_true, decide_eq_true_iff]
      constructor
      · rintro (a | a)
        · exact Or.inr a
        · exact Or.inl a
      · rintro (a | a)
        · exact Or.inr a
        · exact Or.inl a
def AI (h : Nat → Nat) (x u v k : Nat) (d : DD) : Prop := (∀ j, j < k → d.2 78 j = mkL (CFm h x u v j) ∧ d.2 79 j = mkL (PAm h u j (v + 1))) ∧ ∀ j, k ≤ j → j < 3 → d.2 79 j = mkL (PAm h u j v)
theorem ah67 {h : Nat → Nat} {d : DD} {x u v k : Nat} (hk : k < 3) (hx : x < 3) (hu : u ≤ v) (hv : v < 30) (A : AI h x u v k d) (k13 : Int32 → Int64 → Int32 → DD → Option (Int64 × DD)) (k23 : Int32 → Int64 → Int32 → Int32 → DD → Option (Int64 × DD)) (v3 : Int64) : ∃ d', f_X8_ahead_67 k13 k23 (nI x) v3 (nI v) (nI k) (mkL (PAm h u k v)) (mkL (NOm h k v)) d = k23 (nI x) v3 (nI v) (nI (k + 1)) d' ∧ FR [78, 79] d d' ∧ AI h x u v (k + 1) d' := by
  have fin : ∀ y, y = mkL (CFm h x u v k) → AI h x u v (k + 1) (u2 (u2 d 78 k y) 79 k (mkL (PAm h u k (v + 1)))) := by
    intro y hy
    refine ⟨fun j hj => ?_, fun j h1 h2 => ?_⟩
    · rw [u2_at, u2_at, u2_at, u2_at]
      by_cases e : j = k
      · subst e
        rw [if_neg (by omega), if_pos ⟨rfl, rfl⟩, if_pos ⟨rfl, rfl⟩]
        exact ⟨hy, rfl⟩
      · rw [if_neg (by omega), if_neg (by omega), if_neg (by omega), if_neg (by omega)]
        exact A.1 j (by omega)
    · rw [u2_at, if_neg (by omega), u2_at, if_neg (by omega)]
      exact A.2 j (by omega) h2
  have ep : mkL (NOm h k v) ||| mkL (PAm h u k v) = mkL (PAm h u k (v + 1)) := by
    rw [mk_or]
    apply mk_congr
    intro t _
    rw [pam_s hu hv]
  unfold f_X8_ahead_67
  simp only [↓mL_lit, mk_not, nI_1]
  rw [ep, mk_not, mk_and]
  by_cases c : k = x
  · rw [if_pos (by rw [c])]
    refine ⟨u2 (u2 d 78 k (mkL (fun i => NOm h k v i && !(PAm h u k v i)))) 79 k (mkL (PAm h u k (v + 1))), ?_, fr_u2 (fr_u2 (fr_refl _ _) (by decide)) (by decide), ?_⟩
    · rw [e_pick hk, ob_e, e_X9_putLong, ob_e, wr2_in (by rw [ln_79]; exact hk)]
    · refine fin _ (mk_congr (fun t _ => ?_))
      unfold CFm
      rw [if_pos c]
  · rw [if_neg (fun z => c ((nI_eq (by omega) (by omega)).mp z))]
    refine ⟨u2 (u2 d 78 k (mkL (fun i => !(PAm h u k (v + 1) i)))) 79 k (mkL (PAm h u k (v + 1))), ?_, fr_u2 (fr_u2 (fr_refl _ _) (by decide)) (by decide), ?_⟩
    · rw [e_pick hk, ob_e, e_X9_putLong, ob_e, wr2_in (by rw [ln_79]; exact hk)]
    · refine fin _ (mk_congr (fun t _ => ?_))
      unfold CFm
      rw [if_neg c, pam_s hu hv]
theorem ah23 {h nm} {d0 : DD} (V : VH h) (H : HC 2 d0 h nm) {first : Nat} {L : List ((Nat → Nat) × (Nat → Nat → Bool))} (X : GX h d0 first L) {x u v : Nat} (hx : x < 3) (hu : u ≤ v) (hv : v < 30) (k13 : Int32 → Int64 → Int32 → DD → Option (Int64 × DD)) (Q : Int64 → DD → Prop) {acc : Nat} (K : ∀ d, FR [78, 79] d0 d → (∀ j, j < 3 → d.2 79 j = mkL (PAm h u j (v + 1))) → OW (k13 (nI x) (lN (acc + PS h (CFm h x u v) L)) (nI (v + 1)) d) Q) : ∀ (m k f : Nat) (d : DD), k + m = 3 → m < f → FR [78, 79] d0 d → AI h x u v k d → OW (f_X8_ahead_23 k13 f (nI x) (lN acc) (nI v) (nI k) d) Q := by
  have v0 := V.1
  intro m
  induction m with
  | zero =>
    intro k f d hi hf F A
    cases f with
    | zero => omega
    | succ f =>
      show OW (f_X8_ahead_23B k13 (f_X8_ahead_23 k13 f) _ _ _ _ _) Q
      unfold f_X8_ahead_23B
      have ek : k = 3 := by omega
      subst ek
      have PKd : PK d (CFm h x u v) := fun j hj => (A.1 j hj).1
      rw [if_neg (by decide), e_X9_longAt, ob_e, rd2_in (by rw [ln_78]; exact hx), PKd x hx, nI_1]
      dsimp only
      by_cases c : mkL (CFm h x u v x) = lN 0
      · rw [if_pos (show mkL (CFm h x u v x) = 0 from c)]
        have z : PS h (CFm h x u v) L = 0 := by
          unfold PS
          apply sm_0
          intro b _
          have : tp (CFm h x u v) b x = 0 := by
            apply cnt_0
            intro t ht
            rw [(mk_eq0.mp c) t ht, Bool.and_false]
          rw [pn_zero hx this, Nat.mul_zero]
        have kk := K d F (fun j hj => (A.1 j hj).2)
        rw [z, Nat.add_zero] at kk
        exact kk
      · rw [if_neg (show ¬ mkL (CFm h x u v x) = 0 from c), e_picked V (hc_fr H F (by decide)) (gx_fr X F (by decide) (by decide) (by decide)) PKd, ob_e, bd_e]
        dsimp only
        rw [lN_add]
        exact K d F (fun j hj => (A.1 j hj).2)
  | succ m ih =>
    intro k f d hi hf F A
    cases f with
    | zero => omega
    | succ f =>
      show OW (f_X8_ahead_23B k13 (f_X8_ahead_23 k13 f) _ _ _ _ _) Q
      unfold f_X8_ahead_23B
      have H' := hc_fr H F (by decide)
      rw [if_pos (by rw [nI_lit, nI_ltI (by omega) (by omega)]; omega), e_X9_longAt, ob_e, rd2_in (by rw [ln_79]; omega), A.2 k (Nat.le_refl _) (by omega)]
      dsimp only
      rw [hc_k H']
      obtain ⟨d', e', F', A'⟩ := ah67 (h := h) (d := d) (x := x) (u := u) (v := v) (k := k) (by omega) hx hu hv A k13 (f_X8_ahead_23 k13 f) (lN acc)
      have nx := ih (k + 1) f d' (by omega) (by omega) (fr_trans F F') A'
      rw [← e'] at nx
      by_cases c : k < h 0
      · have en : mkL (fun t => pb (h (2 + k)) (h (5 + k)) t v) = mkL (NOm h k v) := mk_congr (fun t _ => by
          unfold NOm
          rw [decide_eq_true c, Bool.true_and])
        rw [if_pos (by rw [nI_ltI (by omega) (by omega)]; exact c), e_X1_passing hb_2 V H' c hv, ob_e, en]
        exact nx
      · have en : (0 : Int64) = mkL (NOm h k v) := by
          show lN 0 = _
          rw [mk_0]
          apply mk_congr
          intro t _
          unfold NOm
          rw [decide_eq_false c]
          rfl
        rw [if_neg (by rw [nI_ltI (by omega) (by omega)]; exact c), en]
        exact nx
theorem ah13 {h nm} {d0 : DD} (V : VH h) (H : HC 2 d0 h nm) {first : Nat} {L : List ((Nat → Nat) × (Nat → Nat → Bool))} (X : GX h d0 first L) {x u : Nat} (hx : x < 3) : ∀ (m v f acc : Nat) (d : DD), v + m = 30 → m < f → u ≤ v → FR [78, 79] d0 d → (∀ j, j < 3 → d.2 79 j = mkL (PAm h u j v)) → OW (f_X8_ahead_13 f (nI x) (lN acc) (nI v) d) (fun r d' => FR [78, 79] d0 d' ∧ r = lN (acc + sv (fun v => PS h (CFm h x u v) L) m v)) := by
  intro m
  induction m with
  | zero =>
    intro v f acc d hi hf hu F A
    cases f with
    | zero => omega
    | succ f =>
      show OW (f_X8_ahead_13B (f_X8_ahead_13 f) _ _ _ _) _
      unfold f_X8_ahead_13B
      rw [if_neg (by rw [nI_lit, nI_ltI (by omega) (by omega)]; omega)]
      exact ow_ret ⟨F, rfl⟩
  | succ m ih =>
    intro v f acc d hi hf hu F A
    cases f with
    | zero => omega
    | succ f =>
      show OW (f_X8_ahead_13B (f_X8_ahead_13 f) _ _ _ _) _
      unfold f_X8_ahead_13B
      rw [if_pos (by rw [nI_lit, nI_ltI (by omega) (by omega)]; omega)]
      refine ah23 (d0 := d) V (hc_fr H F (by decide)) (gx_fr X F (by decide) (by decide) (by decide)) hx hu (by omega) _ _ (fun d' F' A' => ?_) 3 0 FU d (by omega) (by unfold FU; omega) (fr_refl _ _) ⟨fun j hj => by omega, fun j _ hj => A j hj⟩
      refine ow_mono (ih (v + 1) f _ d' (by omega) (by omega) (by omega) (fr_trans F F') A') ?_
      intro r d2 H2
      refine ⟨H2.1, ?_⟩
      rw [H2.2]
      show _ = lN (acc + (PS h (CFm h x u v) L + sv (fun v => PS h (CFm h x u v) L) m (v + 1)))
      rw [Nat.add_assoc]
theorem e_ahead {h nm} {d : DD} (V : VH h) (H : HC 2 d h nm) {first : Nat} {L : List ((Nat → Nat) × (Nat → Nat → Bool))} (X : GX h d first L) {x u : Nat} (hx : x < 3) (hu : u < 30) : OW (f_X8_ahead (nI x) (nI u) d) (fun r d' => FR [78, 79] d d' ∧ r = lN (sv (fun v => PS h (CFm h x u v) L) (30 - u) u)) := by
  unfold f_X8_ahead
  refine ow_call (e_fill2 _ _) ?_
  intro _ d1 H1
  refine ow_mono (ah13 (d0 := d1) V (hc_fr H H1.1 (by decide)) (gx_fr X H1.1 (by decide) (by decide) (by decide)) hx (30 - u) u FU 0 d1 (by omega) (by unfold FU; omega) (Nat.le_refl _) (fr_refl _ _) (fun j hj => ?_)) ?_
  · rw [H1.2 j (by rw [ln_79]; exact hj), show (0 : Int64) = lN 0 from rfl, mk_0]
    apply mk_congr
    intro t _
    have g := nh_ge (lo := h (2 + j)) (t := t) (u := u)
    unfold PAm
    rw [decide_eq_false (p := nh (h (2 + j)) t u < u) (by omega), Bool.and_false, Bool.and_false]
  · intro r d2 H2
    refine ⟨fr_trans (fr_mono H1.1 (by decide)) H2.1, ?_⟩
    rw [H2.2, Nat.zero_add]
theorem sv_congr {F G : Nat → Nat} : ∀ (m v : Nat), (∀ i, v ≤ i → i < v + m → F i = G i) → sv F m v = sv G m v
  | 0, _, _ => rfl
  | m + 1, v, e => by
    show F v + sv F m (v + 1) = G v + sv G m (v + 1)
    rw [e v (Nat.le_refl _) (by omega), sv_congr m (v + 1) (fun i h1 h2 => e i (by omega) (by omega))]
theorem gb_sv {h : Nat → Nat} (n k u : Nat) : GB h n k u = sv (fun v => GS h n (BF h k u v)) (30 - u) u := by
  unfold GB GS
  have gen : ∀ (l : List (Nat → Nat)) (m v : Nat), sm (fun c => sv (fun v => pn (PC h n c (BF h k u v)) (h 0)) m v) l = sv (fun v => sm (fun c => pn (PC h n c (BF h k u v)) (h 0)) l) m v := by
    intro l m
    induction m with
    | zero => intro v; exact sm_zero l
    | succ m ih =>
      intro v
      show sm (fun c => pn (PC h n c (BF h k u v)) (h 0) + sv (fun v => pn (PC h n c (BF h k u v)) (h 0)) m (v + 1)) l = _
      rw [sm_add, ih]
      rfl
  exact gen _ _ _
theorem ps_bf {h : Nat → Nat} (V : VH h) {n : Nat} {L : List ((Nat → Nat) × (Nat → Nat → Bool))} (I : LI h n (h 1) L) {x u v : Nat} (hx : x < h 0) (hu : u ≤ v) (hv : v < 30) : PS h (CFm h x u v) L = GS h n (BF h x u v) := by
  have v0 := V.1
  have e1 : GS h n (BF h x u v) = GS h n (fun j t => if j < h 0 then BF h x u v j t else true) := by
    unfold GS
    apply sm_congr
    intro c _
    apply pn_congr
    intro j hj
    unfold PC
    apply cnt_congr
    intro t _
    show _ = (WM h n c j t && (if j < h 0 then BF h x u v j t else true))
    rw [if_pos hj]
  rw [e1, ← ps_gs V I (fun k hk _ => by rw [if_neg (by omega)])]
  unfold PS
  apply sm_congr
  intro b hb
  congr 1
  apply pn_congr
  intro j hj
  unfold tp
  apply cnt_congr
  intro t ht
  obtain ⟨i1, i2, i3, i4⟩ := I.2.2 b hb
  show _ = (b.2 j t && (if j < h 0 then BF h x u v j t else true))
  by_cases c : j < h 0
  · rw [if_pos c]
    cases r : b.2 j t
    · rfl
    · have tT : t < TT h j := by
        have ne : ∃ cc, cc ∈ cb h b.1 (h 1) := by
          refine ⟨_, cb_mem (f := fun i => (fl (fun v => (b.1 i).testBit v) 8 0).head?.getD 0) (fun a ha => ?_)⟩
          obtain ⟨w, hw⟩ := (i4 a ha).1
          have w8 := bit8 (I.1 b hb a) hw
          have mem : w ∈ fl (fun v => (b.1 a).testBit v) 8 0 := (fl_mem _ _ _ _).mpr ⟨Nat.zero_le _, by omega, hw⟩
          cases q : fl (fun v => (b.1 a).testBit v) 8 0 with
          | nil => rw [q] at mem; cases mem
          | cons y l =>
            have : y ∈ fl (fun v => (b.1 a).testBit v) 8 0 := by rw [q]; exact List.mem_cons_self
            have m := (fl_mem _ _ _ _).mp this
            exact ⟨by show y < 8; omega, m.2.2⟩
        obtain ⟨cc, hc⟩ := ne
        rw [i1 cc hc j c t ht] at r
        unfold WA at r
        rw [Bool.and_eq_true] at r
        exact of_decide_eq_true r.1
      have key := nh_v (lo := h (2 + j)) (t := t) hu hv
      have tT' : t < tn (h (2 + j)) (h (5 + j)) := tT
      have no : NOm h j v t = pa (h (2 + j)) t v := by
        unfold NOm pb
        rw [decide_eq_true c, decide_eq_true tT', Bool.true_and, Bool.true_and]
      have pm : PAm h u j v t = decide (nh (h (2 + j)) t u < v) := by
        unfold PAm
        rw [decide_eq_true c, decide_eq_true tT, Bool.true_and, Bool.true_and]
      rw [Bool.true_and, Bool.true_and]
      unfold CFm BF
      rw [no, pm]
      by_cases e : j = x
      · rw [if_pos e, if_pos e, e] 
        rw [e] at key
        rw [Bool.eq_iff_iff, Bool.and_eq_true, decide_eq_true_iff]
        constructor
        · rintro ⟨a, b⟩
          have b' : ¬ nh (h (2 + x)) t u < v := by simpa using b
          have := key.mpr (Or.inr a)
          omega
        · intro z
          have l1 : ¬ nh (h (2 + x)) t u < v := by omega
          have := key.mp (by omega)
          rcases this with q | q
          · exact absurd q l1
          · exact ⟨q, by simpa using l1⟩
      · rw [if_neg e, if_neg e, Bool.eq_iff_iff, decide_eq_true_iff]
        constructor
        · intro z
          have z' : ¬ (nh (h (2 + j)) t u < v ∨ pa (h (2 + j)) t v = true) := by
            intro q
            rcases q with q | q
            · rw [decide_eq_true q, Bool.or_true] at z
              cases z
            · rw [q, Bool.true_or] at z
              cases z
          rcases Nat.lt_or_ge v (nh (h (2 + j)) t u) with q | q
          · exact q
          · exact absurd (key.mp (by omega)) z'
        · intro z
          have z' : ¬ (nh (h (2 + j)) t u < v ∨ pa (h (2 + j)) t v = true) := fun q => by
            have := key.mpr q
            omega
          have a1 : ¬ nh (h (2 + j)) t u < v := fun q => z' (Or.inl q)
          have a2 : pa (h (2 + j)) t v = false := by
            cases q : pa (h (2 + j)) t v
            · rfl
            · exact absurd (Or.inr q) z'
          rw [a2, decide_eq_false a1]
          rfl
  · rw [if_neg c, Bool.and_true]
    have : CFm h x u v j t = true := by
      unfold CFm NOm PAm
      rw [if_neg (by omega), decide_eq_false c]
      rfl
    rw [this, Bool.and_true]
