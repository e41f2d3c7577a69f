-- PURE ROWS: the branches part the worlds
theorem sm_flat {α β : Type} (G : β → Nat) (f : α → List β) : ∀ (l : List α), sm G (l.flatMap f) = sm (fun x => sm G (f x)) l
  | [] => rfl
  | x :: l => by
    rw [List.flatMap_cons, sm_append, sm_flat G f l]
    rfl
theorem sm_map {α β : Type} (G : β → Nat) (f : α → β) : ∀ (l : List α), sm G (l.map f) = sm (fun x => G (f x)) l
  | [] => rfl
  | x :: l => by
    show G (f x) + sm G (l.map f) = G (f x) + _
    rw [sm_map G f l]
theorem sm_fm {α β : Type} (G : β → Nat) (f : α → Option β) : ∀ (l : List α), sm G (l.filterMap f) = sm (fun x => match f x with
    | none => 0
    | some y => G y) l
  | [] => rfl
  | x :: l => by
    rw [List.filterMap_cons]
    show _ = (match f x with | none => 0 | some y => G y) + _
    rw [← sm_fm G f l]
    cases f x with
    | none => exact (Nat.zero_add _).symm
    | some y => rfl
theorem sm_add {α : Type} (F G : α → Nat) : ∀ (l : List α), sm (fun x => F x + G x) l = sm F l + sm G l
  | [] => rfl
  | x :: l => by
    show F x + G x + sm _ l = F x + sm F l + (G x + sm G l)
    rw [sm_add F G l]
    omega
theorem sm_zero {α : Type} : ∀ (l : List α), sm (fun _ => 0) l = 0
  | [] => rfl
  | _ :: l => by
    show 0 + sm _ l = 0
    rw [sm_zero l]
theorem sm_swap {α β : Type} (F : α → β → Nat) (r : List β) : ∀ (l : List α), sm (fun x => sm (F x) r) l = sm (fun y => sm (fun x => F x y) l) r
  | [] => (sm_zero r).symm
  | x :: l => by
    show sm (F x) r + sm (fun x => sm (F x) r) l = sm (fun y => F x y + sm (fun x => F x y) l) r
    rw [sm_add, sm_swap F r l]
theorem cs_s' (n : Nat) (F : Nat → Nat) : cs (n + 1) F = F 0 + cs n (fun i => F (i + 1)) := by
  induction n with
  | zero =>
    show 0 + F 0 = F 0 + 0
    omega
  | succ n ih =>
    show cs (n + 1) F + F (n + 1) = F 0 + (cs n (fun i => F (i + 1)) + F (n + 1))
    rw [ih]
    omega
theorem sm_fl (G : Nat → Nat) (p : Nat → Bool) : ∀ (m k : Nat), sm G (fl p m k) = cs m (fun i => if p (k + i) = true then G (k + i) else 0)
  | 0, _ => rfl
  | m + 1, k => by
    rw [fl_s, cs_s']
    show _ = (if p k = true then G k else 0) + cs m (fun i => if p (k + (i + 1)) = true then G (k + (i + 1)) else 0)
    have ih := sm_fl G p m (k + 1)
    have e : cs m (fun i => if p (k + (i + 1)) = true then G (k + (i + 1)) else 0) = cs m (fun i => if p (k + 1 + i) = true then G (k + 1 + i) else 0) := by
      apply cs_congr
      intro i _
      rw [show k + (i + 1) = k + 1 + i by omega]
    rw [e, ← ih]
    by_cases c : p k = true
    · rw [if_pos c, if_pos c]
      rfl
    · rw [if_neg c, if_neg c, Nat.zero_add]
theorem sm_bits (G : Nat → Nat) (s : Nat) : sm G (fl (fun v => s.testBit v) 8 0) = mw G s := by
  rw [sm_fl]
  unfold mw
  apply cs_congr
  intro i _
  rw [Nat.zero_add]
theorem cs_ext {F : Nat → Nat} {m n : Nat} (hm : m ≤ n) (h : ∀ i, m ≤ i → F i = 0) : cs n F = cs m F := by
  obtain ⟨k, rfl⟩ := Nat.exists_eq_add_of_le hm
  induction k with
  | zero => rfl
  | succ k ih =>
    show cs (m + k) F + F (m + k) = _
    rw [ih (by omega), h _ (by omega), Nat.add_zero]
theorem wb_hi {h : Nat → Nat} (V : VH h) {a v : Nat} (ha : a < h 1) (hv : 2 + 2 * h 0 ≤ v) : wb h a v = false := by
  have := (V.2.2.2.1 a ha).2
  exact Nat.testBit_lt_two_pow (Nat.lt_of_lt_of_le this (Nat.pow_le_pow_right (by decide) hv))
theorem sm_wl {h : Nat → Nat} (V : VH h) {a : Nat} (ha : a < h 1) (G : Nat → Nat) : sm G (wl h a) = cs 8 (fun v => if wb h a v = true then G v else 0) := by
  have v0 := V.1
  unfold wl
  rw [sm_fl]
  have e := cs_ext (F := fun v => if wb h a v = true then G v else 0) (m := MW h) (n := 8) (by unfold MW; omega) (fun i hi => by
    rw [wb_hi V ha (by unfold MW at hi; omega)]
    rfl)
  rw [e]
  apply cs_congr
  intro i _
  rw [Nat.zero_add]
def cb (h : Nat → Nat) (S : Nat → Nat) : Nat → List (Nat → Nat)
  | 0 => [fun i => fw h i]
  | A + 1 => (cb h S A).flatMap (fun c => (fl (fun v => (S A).testBit v) 8 0).map (fun w => upN c A w))
theorem cb_congr {h : Nat → Nat} {S T : Nat → Nat} : ∀ {A : Nat}, (∀ a, a < A → S a = T a) → cb h S A = cb h T A
  | 0, _ => rfl
  | A + 1, e => by
    unfold cb
    rw [cb_congr (A := A) (fun a ha => e a (by omega)), e A (by omega)]
def WA (h : Nat → Nat) (n A : Nat) (c : Nat → Nat) (k t : Nat) : Bool := decide (t < TT h k) && wa h n c k t A
theorem wa_congr {h : Nat → Nat} {n k t : Nat} {c c' : Nat → Nat} : ∀ {A : Nat}, (∀ a, a < A → c a = c' a) → wa h n c k t A = wa h n c' k t A
  | 0, _ => rfl
  | A + 1, e => by
    unfold wa
    rw [wa_congr (A := A) (fun a ha => e a (by omega)), e A (by omega)]
theorem fi_hd {h : Nat → Nat} (V : VH h) {a w k t : Nat} (hk : k < h 0) (hw : w < 2 + 2 * h 0) (ht : t < TT h k) : ∀ {n : Nat}, FI h n a (mo w k) k t = hd h a w k t n
  | 0 => rfl
  | n + 1 => by
    unfold FI hd
    rw [fi_hd V hk hw ht]
    congr 1
    unfold f1
    by_cases e : h (170 + 3 * n) = a
    · rw [if_pos ⟨e, hk⟩, decide_eq_false (by omega), Bool.false_or]
      unfold TT at ht
      unfold mo tl
      by_cases e1 : w = 1
      · subst e1
        rw [if_pos rfl, if_neg (by decide), if_pos rfl, if_neg (by omega), if_pos rfl]
        unfold pbu pu pb
        rw [decide_eq_true ht, Bool.true_and]
      · rw [if_neg e1]
        by_cases e2 : w = 2 + 2 * k
        · rw [if_pos e2, if_neg (by decide), if_neg (by decide), if_pos rfl, if_pos (by omega), decide_eq_false (by omega)]
          cases (h (170 + 3 * n + 2)).testBit k <;> rfl
        · rw [if_neg e2]
          by_cases e3 : w = 3 + 2 * k
          · rw [if_pos e3, if_neg (by decide), if_neg (by decide), if_neg (by decide), if_pos (by omega), decide_eq_true (by omega)]
            cases (h (170 + 3 * n + 2)).testBit k <;> rfl
          · rw [if_neg e3, if_pos rfl, if_neg (by omega), if_neg e1]
            unfold pu pb
            rw [decide_eq_true ht, Bool.true_and, decide_eq_true (p := 1 ≤ h (170 + 3 * n + 1) + 1) (by omega), Bool.true_and, Nat.add_sub_cancel]
    · rw [if_neg (fun z => e z.1), decide_eq_true e, Bool.true_or]
theorem fi_hi {h : Nat → Nat} {a m k t : Nat} (hk : h 0 ≤ k) : ∀ {n : Nat}, FI h n a m k t = true
  | 0 => rfl
  | n + 1 => by
    unfold FI f1
    rw [fi_hi hk, if_neg (by omega)]
    rfl
theorem wa_step {h : Nat → Nat} (V : VH h) {n A : Nat} {c : Nat → Nat} {w k t : Nat} (hk : k < h 0) (hw : w < 2 + 2 * h 0) : WA h n (A + 1) (upN c A w) k t = (WA h n A c k t && FI h n A (mo w k) k t) := by
  unfold WA
  show (decide (t < TT h k) && (wa h n (upN c A w) k t A && LM h n A (upN c A w A) k t)) = _
  rw [upN_same, wa_congr (c := upN c A w) (c' := c) (fun a ha => upN_ne (by omega))]
  unfold LM
  by_cases e : t < TT h k
  · rw [decide_eq_true e, fi_hd V hk hw e, Bool.true_and, Bool.true_and, Bool.true_and]
  · rw [decide_eq_false e]
    rfl
def VAN (h : Nat → Nat) (n A : Nat) (G : (Nat → Nat) → Nat) : Prop := ∀ c, (∃ k, k < h 0 ∧ ∀ t, t < 64 → WA h n A c k t = false) → G c = 0
def LI (h : Nat → Nat) (n A : Nat) (L : List ((Nat → Nat) × (Nat → Nat → Bool))) : Prop := SB L ∧ (∀ G, VAN h n A G → sm G (cm h A) = sm (fun b => sm G (cb h b.1 A)) L) ∧ ∀ b, b ∈ L → (∀ c, c ∈ cb h b.1 A → ∀ k, k < h 0 → ∀ t, t < 64 → b.2 k t = WA h n A c k t) ∧ (∀ k, h 0 ≤ k → k < 3 → ∀ t, t < 64 → b.2 k t = decide (t = 0)) ∧ (∀ k, k < 3 → ∃ t, t < 64 ∧ b.2 k t = true) ∧ ∀ a, a < A → (∃ v, (b.1 a).testBit v = true) ∧ ∀ v, (b.1 a).testBit v = true → wb h a v = true
theorem st_at {X Y : Nat → Nat → Bool} (h : sT X Y) {k t : Nat} (hk : k < 3) (ht : t < 64) : X k t = Y k t := mk_eq.mp (h k hk) t ht
theorem xt_some {A : Nat} {b b' : (Nat → Nat) × (Nat → Nat → Bool)} {c : Nat × (Nat → Nat → Bool)} (h : xt A b c = some b') : b' = (upN b.1 A c.1, fun k t => b.2 k t && c.2 k t) ∧ ∀ k, k < 3 → ∃ t, t < 64 ∧ (b.2 k t && c.2 k t) = true := by
  unfold xt at h
  by_cases q : neB b.2 c.2 0 = true ∧ neB b.2 c.2 1 = true ∧ neB b.2 c.2 2 = true
  · rw [if_pos q] at h
    injection h with h
    refine ⟨h.symm, fun k hk => ?_⟩
    have nk : neB b.2 c.2 k = true := by
      have : k = 0 ∨ k = 1 ∨ k = 2 := by omega
      rcases this with rfl | rfl | rfl
      · exact q.1
      · exact q.2.1
      · exact q.2.2
    unfold neB at nk
    rw [decide_eq_true_iff] at nk
    apply Classical.byContradiction
    intro z
    apply nk
    apply cnt_0
    intro t ht
    cases r : (b.2 k t && c.2 k t)
    · rfl
    · exact absurd ⟨t, ht, r⟩ z
  · rw [if_neg q] at h
    cases h
theorem xt_none {A : Nat} {b : (Nat → Nat) × (Nat → Nat → Bool)} {c : Nat × (Nat → Nat → Bool)} (h : xt A b c = none) : ∃ k, k < 3 ∧ ∀ t, t < 64 → (b.2 k t && c.2 k t) = false := by
  apply Classical.byContradiction
  intro z
  have all : ∀ k, k < 3 → neB b.2 c.2 k = true := by
    intro k hk
    unfold neB
    rw [decide_eq_true_iff]
    intro q
    exact z ⟨k, hk, cnt_0_iff.mp q⟩
  unfold xt at h
  rw [if_pos ⟨all 0 (by omega), all 1 (by omega), all 2 (by omega)⟩] at h
  cases h
theorem li_step {h : Nat → Nat} (V : VH h) {n A : Nat} (hA : A < h 1) {L : List ((Nat → Nat) × (Nat → Nat → Bool))} {C : List (Nat × (Nat → Nat → Bool))} (I : LI h n A L) (J : CI h n A 8 C) : LI h n (A + 1) (nl A C L) := by
  obtain ⟨I1, I2, I3⟩ := I
  obtain ⟨J1, J2, J3, J4⟩ := J
  have wlt : ∀ v, wb h A v = true → v < 2 + 2 * h 0 := by
    intro v hv
    rcases Nat.lt_or_ge v (2 + 2 * h 0) with z | z
    · exact z
    · rw [wb_hi V hA z] at hv
      cases hv
  have mem : ∀ b', b' ∈ nl A C L → ∃ b c, b ∈ L ∧ c ∈ C ∧ xt A b c = some b' := by
    intro b' hb'
    obtain ⟨b, hb, hf⟩ := List.mem_flatMap.mp hb'
    obtain ⟨c, hc, hx⟩ := List.mem_filterMap.mp hf
    exact ⟨b, c, hb, hc, hx⟩
  refine ⟨?_, ?_, ?_⟩
  · intro b' hb' a
    obtain ⟨b, c, hb, hc, hx⟩ := mem b' hb'
    rw [(xt_some hx).1]
    show upN b.1 A c.1 a < 2 ^ 8
    by_cases e : a = A
    · rw [e, upN_same]
      exact (J3 c hc).1
    · rw [upN_ne e]
      exact I1 b hb a
  · intro G hG
    have e1 : sm G (cm h (A + 1)) = sm (fun c => sm (fun w => G (upN c A w)) (wl h A)) (cm h A) := by
      show sm G ((cm h A).flatMap (fun c => (wl h A).map (fun w => upN c A w))) = _
      rw [sm_flat]
      apply sm_congr
      intro c _
      rw [sm_map]
    have van : VAN h n A (fun c => sm (fun w => G (upN c A w)) (wl h A)) := by
      intro c hc
      obtain ⟨k, hk, hz⟩ := hc
      apply sm_0
      intro w hw
      have hw2 := wlt w ((fl_mem _ _ _ _).mp hw).2.2
      exact hG _ ⟨k, hk, fun t ht => by rw [wa_step V hk hw2, hz t ht, Bool.false_and]⟩
    rw [e1, I2 _ van]
    unfold nl
    rw [sm_flat]
    apply sm_congr
    intro b hb
    rw [sm_fm]
    have e2 : sm (fun c => sm (fun w => G (upN c A w)) (wl h A)) (cb h b.1 A) = sm (fun c => sm (fun ch => mw (fun w => G (upN c A w)) ch.1) C) (cb h b.1 A) := by
      apply sm_congr
      intro c _
      rw [sm_wl V hA, ← J2 (fun w => G (upN c A w))]
    rw [e2, sm_swap]
    apply sm_congr
    intro ch hch
    have ge : ∀ c, c ∈ cb h b.1 A → mw (fun w => G (upN c A w)) ch.1 = sm (fun w => G (upN c A w)) (fl (fun v => ch.1.testBit v) 8 0) := fun c _ => (sm_bits _ _).symm
    rw [sm_congr ge]
    cases hx : xt A b ch with
    | none =>
      show _ = 0
      obtain ⟨k, hk, hz⟩ := xt_none hx
      apply sm_0
      intro c hc
      apply sm_0
      intro w hw
      have hwb := ((fl_mem _ _ _ _).mp hw).2.2
      obtain ⟨_, hwa, hs⟩ := (J3 ch hch).2.2 w hwb
      have hw2 := wlt w hwa
      rcases Nat.lt_or_ge k (h 0) with q | q
      · apply hG
        refine ⟨k, q, fun t ht => ?_⟩
        rw [wa_step V q hw2, ← (I3 b hb).1 c hc k q t ht, ← st_at hs hk ht]
        exact hz t ht
      · exfalso
        have h0 := hz 0 (by omega)
        rw [(I3 b hb).2.1 k q hk 0 (by omega), st_at hs hk (by omega), fi_hi q] at h0
        cases h0
    | some b' =>
      show _ = sm G (cb h b'.1 (A + 1))
      rw [(xt_some hx).1]
      show _ = sm G ((cb h (upN b.1 A ch.1) A).flatMap (fun c => (fl (fun v => (upN b.1 A ch.1 A).testBit v) 8 0).map (fun w => upN c A w)))
      rw [cb_congr (S := upN b.1 A ch.1) (T := b.1) (fun a ha => upN_ne (by omega)), upN_same, sm_flat]
      apply sm_congr
      intro c _
      rw [sm_map]
  · intro b' hb'
    obtain ⟨b, ch, hb, hch, hx⟩ := mem b' hb'
    obtain ⟨rfl, hne⟩ := xt_some hx
    refine ⟨?_, ?_, hne, ?_⟩
    · intro c hc k hk t ht
      have hc' : c ∈ (cb h (upN b.1 A ch.1) A).flatMap (fun c => (fl (fun v => (upN b.1 A ch.1 A).testBit v) 8 0).map (fun w => upN c A w)) := hc
      rw [cb_congr (S := upN b.1 A ch.1) (T := b.1) (fun a ha => upN_ne (by omega)), upN_same] at hc'
      obtain ⟨c0, hc0, hm⟩ := List.mem_flatMap.mp hc'
      obtain ⟨w, hw, rfl⟩ := List.mem_map.mp hm
      have hwb := ((fl_mem _ _ _ _).mp hw).2.2
      obtain ⟨_, hwa, hs⟩ := (J3 ch hch).2.2 w hwb
      have v0 := V.1
      rw [wa_step V hk (wlt w hwa), ← (I3 b hb).1 c0 hc0 k hk t ht, ← st_at hs (by omega) ht]
    · intro k hk h3 t ht
      obtain ⟨v, hv⟩ := (J3 ch hch).2.1
      obtain ⟨_, _, hs⟩ := (J3 ch hch).2.2 v hv
      show (b.2 k t && ch.2 k t) = _
      rw [st_at hs h3 ht, fi_hi hk, Bool.and_true]
      exact (I3 b hb).2.1 k hk h3 t ht
    · intro a ha
      show (∃ v, (upN b.1 A ch.1 a).testBit v = true) ∧ ∀ v, (upN b.1 A ch.1 a).testBit v = true → _
      by_cases e : a = A
      · subst e
        rw [upN_same]
        exact ⟨(J3 ch hch).2.1, fun v hv => ((J3 ch hch).2.2 v hv).2.1⟩
      · rw [upN_ne e]
        exact (I3 b hb).2.2.2 a (by omega)
-- how many branches
theorem fm_len {α β : Type} (f : α → Option β) (g : α → Nat) : ∀ (l : List α), (∀ x, x ∈ l → f x ≠ none → 1 ≤ g x) → (l.filterMap f).length ≤ sm g l
  | [], _ => Nat.le_refl _
  | x :: l, h => by
    have ih := fm_len f g l (fun y hy => h y (List.mem_cons_of_mem _ hy))
    rw [List.filterMap_cons]
    show _ ≤ g x + sm g l
    cases z : f x with
    | none =>
      show (l.filterMap f).length ≤ _
      omega
    | some y =>
      have := h x List.mem_cons_self (by rw [z]; simp)
      show (y :: l.filterMap f).length ≤ _
      rw [List.length_cons]
      omega
theorem fm_len1 {α β : Type} (f : α → Option β) : ∀ (l : List α), (l.filterMap f).length ≤ l.length
  | [] => Nat.le_refl _
  | x :: l => by
    have ih := fm_len1 f l
    rw [List.filterMap_cons, List.length_cons]
    cases f x with
    | none =>
      show (l.filterMap f).length ≤ _
      omega
    | some y =>
      show (y :: l.filterMap f).length ≤ _
      rw [List.length_cons]
      omega
theorem fi_false {h : Nat → Nat} {a m k t i : Nat} : ∀ {n : Nat}, i < n → f1 h i a m k t = false → FI h n a m k t = false
  | 0, hi, _ => absurd hi (Nat.not_lt_zero i)
  | n + 1, hi, e => by
    unfold FI
    rcases Nat.lt_or_ge i n with z | z
    · rw [fi_false z e, Bool.false_and]
    · have : i = n := by omega
      rw [← this, e, Bool.and_false]
theorem fi_true {h : Nat → Nat} {a m k t : Nat} : ∀ {n : Nat}, (∀ i, i < n → h (170 + 3 * i) ≠ a) → FI h n a m k t = true
  | 0, _ => rfl
  | n + 1, e => by
    unfold FI f1
    rw [fi_true (fun i hi => e i (by omega)), if_neg (fun z => e n (by omega) z.1)]
    rfl
def lv (h : Nat → Nat) (i v : Nat) : Nat := if v < 2 then 1 else if v < 2 + 2 * h 0 then (if decide (v % 2 = 0) = (h (170 + 3 * i + 2)).testBit ((v - 2) / 2) then 0 else 1) else 0
theorem lv_sum {h : Nat → Nat} (V : VH h) (i : Nat) : cs 8 (lv h i) ≤ 5 := by
  have v0 := V.1
  have e : ∀ K, K ≤ 3 → ∀ b0 b1 b2 : Bool, cs 8 (fun v => if v < 2 then 1 else if v < 2 + 2 * K then (if decide (v % 2 = 0) = (if (v - 2) / 2 = 0 then b0 else if (v - 2) / 2 = 1 then b1 else b2) then 0 else 1) else 0) ≤ 5 := by decide
  have e2 := e (h 0) v0 ((h (170 + 3 * i + 2)).testBit 0) ((h (170 + 3 * i + 2)).testBit 1) ((h (170 + 3 * i + 2)).testBit 2)
  refine Nat.le_trans (Nat.le_of_eq (cs_congr (fun v hv => ?_))) e2
  unfold lv
  have : (v - 2) / 2 = 0 ∨ (v - 2) / 2 = 1 ∨ (v - 2) / 2 = 2 := by omega
  rcases this with z | z | z <;> rw [z] <;> rfl
theorem cs_mono {n : Nat} {F G : Nat → Nat} (h : ∀ i, i < n → F i ≤ G i) : cs n F ≤ cs n G := by
  induction n with
  | zero => exact Nat.le_refl _
  | succ n ih =>
    show cs n F + F n ≤ cs n G + G n
    have := ih (fun i hi => h i (by omega))
    have := h n (by omega)
    omega
theorem cs_get {n w : Nat} {F : Nat → Nat} (hw : w < n) : F w ≤ cs n F := by
  induction n with
  | zero => omega
  | succ n ih =>
    show F w ≤ cs n F + F n
    by_cases e : w = n
    · subst e
      omega
    · have := ih (by omega)
      omega
theorem five {h : Nat → Nat} (V : VH h) {n A : Nat} (hA : A < h 1) {C : List (Nat × (Nat → Nat → Bool))} (J : CI h n A 8 C) (b : (Nat → Nat) × (Nat → Nat → Bool)) : (C.filterMap (xt A b)).length ≤ 5 := by
  obtain ⟨J1, J2, J3, J4⟩ := J
  by_cases q : ∃ i, i < n ∧ h (170 + 3 * i) = A
  · obtain ⟨i, hi, hA'⟩ := q
    have h1 := fm_len (xt A b) (fun c => mw (lv h i) c.1) C (fun c hc hx => by
      cases z : xt A b c with
      | none => exact absurd z hx
      | some b' =>
        obtain ⟨_, hne⟩ := xt_some z
        obtain ⟨v, hv⟩ := (J3 c hc).2.1
        obtain ⟨v8, hwb, hs⟩ := (J3 c hc).2.2 v hv
        have v2 : v < 2 + 2 * h 0 := by
          rcases Nat.lt_or_ge v (2 + 2 * h 0) with z | z
          · exact z
          · rw [wb_hi V hA z] at hwb
            cases hwb
        have g := cs_get (F := fun v => if c.1.testBit v = true then lv h i v else 0) (n := 8) v8
        rw [if_pos hv] at g
        have one : lv h i v = 1 := by
          unfold lv
          by_cases c1 : v < 2
          · rw [if_pos c1]
          · rw [if_neg c1, if_pos v2]
            rw [if_neg]
            intro zz
            have v0 := V.1
            have hk : (v - 2) / 2 < h 0 := by omega
            obtain ⟨t, ht, htt⟩ := hne ((v - 2) / 2) (by omega)
            have : c.2 ((v - 2) / 2) t = true := by
              cases r : c.2 ((v - 2) / 2) t
              · rw [r, Bool.and_false] at htt
                cases htt
              · rfl
            rw [st_at hs (by omega) ht] at this
            have f : f1 h i A (mo v ((v - 2) / 2)) ((v - 2) / 2) t = false := by
              unfold f1
              rw [if_pos ⟨hA', hk⟩]
              by_cases ev : v % 2 = 0
              · have m2 : mo v ((v - 2) / 2) = 2 := by
                  unfold mo
                  rw [if_neg (by omega), if_pos (by omega)]
                rw [m2, if_neg (by decide), if_neg (by decide), if_pos rfl, ← zz, decide_eq_true ev]
                rfl
              · have m3 : mo v ((v - 2) / 2) = 3 := by
                  unfold mo
                  rw [if_neg (by omega), if_neg (by omega), if_pos (by omega)]
                rw [m3, if_neg (by decide), if_neg (by decide), if_neg (by decide), ← zz, decide_eq_false ev]
            rw [fi_false hi f] at this
            cases this
        rw [one] at g
        exact g)
    rw [J2 (lv h i)] at h1
    refine Nat.le_trans h1 (Nat.le_trans (cs_mono (fun v _ => ?_)) (lv_sum V i))
    split <;> omega
  · have all : ∀ c, c ∈ C → sT c.2 (fun _ _ => true) := by
      intro c hc
      obtain ⟨v, hv⟩ := (J3 c hc).2.1
      refine st_trans ((J3 c hc).2.2 v hv).2.2 (fun k hk => mk_congr (fun t _ => ?_))
      exact fi_true (fun i hi z => q ⟨i, hi, z⟩)
    have l1 : C.length ≤ 1 := by
      match C, J4, all with
      | [], _, _ => exact Nat.zero_le _
      | [x], _, _ => exact Nat.le_refl _
      | x :: y :: l, J4, all =>
        have := (List.pairwise_cons.mp J4).1 y List.mem_cons_self
        exact absurd (st_trans (all x List.mem_cons_self) (st_symm (all y (List.mem_cons_of_mem _ List.mem_cons_self)))) this
    have := fm_len1 (xt A b) C
    omega
