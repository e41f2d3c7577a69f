-- PURE ROWS: some branch, some world
theorem pn_pos {F : Nat → Nat} : ∀ {n : Nat}, (∀ k, k < n → 0 < F k) → 0 < pn F n
  | 0, _ => Nat.one_pos
  | n + 1, h => Nat.mul_pos (pn_pos (fun k hk => h k (by omega))) (h n (by omega))
theorem pn_le {F G : Nat → Nat} : ∀ {n : Nat}, (∀ k, k < n → F k ≤ G k) → pn F n ≤ pn G n
  | 0, _ => Nat.le_refl _
  | n + 1, h => Nat.mul_le_mul (pn_le (fun k hk => h k (by omega))) (h n (by omega))
theorem cnt_mono : ∀ {n : Nat} {P Q : Nat → Bool}, (∀ i, i < n → P i = true → Q i = true) → cnt n P ≤ cnt n Q
  | 0, _, _, _ => Nat.le_refl _
  | n + 1, P, Q, h => by
    have ih := cnt_mono (n := n) (P := P) (Q := Q) (fun i hi => h i (by omega))
    show cnt n P + (if P n = true then 1 else 0) ≤ cnt n Q + (if Q n = true then 1 else 0)
    by_cases c : P n = true
    · rw [if_pos c, if_pos (h n (by omega) c)]
      omega
    · rw [if_neg c]
      omega
theorem cnt_strict : ∀ {n : Nat} {P Q : Nat → Bool} {j : Nat}, (∀ i, i < n → P i = true → Q i = true) → j < n → P j = false → Q j = true → cnt n P < cnt n Q
  | 0, _, _, _, _, hj, _, _ => absurd hj (Nat.not_lt_zero _)
  | n + 1, P, Q, j, h, hj, hp, hq => by
    have m := cnt_mono (n := n) (P := P) (Q := Q) (fun i hi => h i (by omega))
    show cnt n P + (if P n = true then 1 else 0) < cnt n Q + (if Q n = true then 1 else 0)
    by_cases e : j = n
    · subst e
      rw [hp, if_neg (by decide), if_pos hq]
      omega
    · have ih := cnt_strict (n := n) (fun i hi => h i (by omega)) (by omega) hp hq
      by_cases c : P n = true
      · rw [if_pos c, if_pos (h n (by omega) c)]
        omega
      · rw [if_neg c]
        omega
theorem bit8 {s v : Nat} (hs : s < 2 ^ 8) (hv : s.testBit v = true) : v < 8 := by
  rcases Nat.lt_or_ge v 8 with z | z
  · exact z
  · rw [Nat.testBit_lt_two_pow (Nat.lt_of_lt_of_le hs (Nat.pow_le_pow_right (by decide) z))] at hv
    cases hv
theorem wb_pos {h : Nat → Nat} {n : Nat} {L : List ((Nat → Nat) × (Nat → Nat → Bool))} (I : LI h n (h 1) L) {b : (Nat → Nat) × (Nat → Nat → Bool)} (hb : b ∈ L) (but : Int32) : 0 < pn (WB b but) (h 1) := by
  apply pn_pos
  intro a ha
  unfold WB
  split
  · omega
  · obtain ⟨v, hv⟩ := ((I.2.2 b hb).2.2.2 a ha).1
    exact cnt_pos (bit8 (I.1 b hb a) hv) hv
theorem tp_pos {h : Nat → Nat} {n : Nat} {L : List ((Nat → Nat) × (Nat → Nat → Bool))} (I : LI h n (h 1) L) {b : (Nat → Nat) × (Nat → Nat → Bool)} (hb : b ∈ L) : 0 < pn (tp FT b) 3 := by
  apply pn_pos
  intro k hk
  obtain ⟨t, ht, hbt⟩ := (I.2.2 b hb).2.2.1 k hk
  unfold tp FT
  exact cnt_pos ht (by rw [hbt]; rfl)
theorem sm_pos {α : Type} {G : α → Nat} : ∀ {l : List α} {x : α}, x ∈ l → 0 < G x → 0 < sm G l
  | y :: l, x, hx, h => by
    show 0 < G y + sm G l
    rcases List.mem_cons.mp hx with e | e
    · subst e
      omega
    · have := sm_pos e h
      omega
theorem sm_ex {α : Type} {G : α → Nat} : ∀ {l : List α}, 0 < sm G l → ∃ x, x ∈ l ∧ 0 < G x
  | [], h => absurd (show 0 < 0 from h) (Nat.lt_irrefl 0)
  | y :: l, h => by
    have h' : 0 < G y + sm G l := h
    by_cases e : 0 < G y
    · exact ⟨y, List.mem_cons_self, e⟩
    · have h2 : 0 < sm G l := by
        clear h
        omega
      obtain ⟨x, hx, hg⟩ := sm_ex (l := l) h2
      exact ⟨x, List.mem_cons_of_mem _ hx, hg⟩
theorem gs_nil {h : Nat → Nat} (V : VH h) {n : Nat} {L : List ((Nat → Nat) × (Nat → Nat → Bool))} (I : LI h n (h 1) L) : GS h n FT = 0 ↔ L = [] := by
  rw [← ps_gs V I (fun _ _ _ => rfl)]
  constructor
  · intro z
    cases L with
    | nil => rfl
    | cons b l =>
      have : 0 < PS h FT (b :: l) := sm_pos List.mem_cons_self (Nat.mul_pos (wb_pos I List.mem_cons_self _) (tp_pos I List.mem_cons_self))
      omega
  · intro z
    subst z
    rfl
theorem sm_le {α : Type} {F G : α → Nat} : ∀ {l : List α}, (∀ x, x ∈ l → F x ≤ G x) → sm F l ≤ sm G l
  | [], _ => Nat.le_refl _
  | x :: l, h => Nat.add_le_add (h x List.mem_cons_self) (sm_le (fun y hy => h y (List.mem_cons_of_mem _ hy)))
theorem sm_eq {α : Type} {F G : α → Nat} : ∀ {l : List α}, (∀ x, x ∈ l → F x ≤ G x) → sm F l = sm G l → ∀ x, x ∈ l → F x = G x
  | y :: l, h, e, x, hx => by
    have e' : F y + sm F l = G y + sm G l := e
    have h1 := h y List.mem_cons_self
    have h2 := sm_le (l := l) (fun z hz => h z (List.mem_cons_of_mem _ hz))
    rcases List.mem_cons.mp hx with q | q
    · subst q
      omega
    · exact sm_eq (l := l) (fun z hz => h z (List.mem_cons_of_mem _ hz)) (by omega) x q
def FK (k : Nat) (S : Nat → Bool) (j t : Nat) : Bool := if j = k then S t else true
theorem tp_fk (k : Nat) (S : Nat → Bool) (b : (Nat → Nat) × (Nat → Nat → Bool)) (hk : k < 3) : pn (tp (FK k S) b) 3 = pn (fun j => if j = k then 1 else tp FT b j) 3 * tp (fun _ => S) b k ∧ pn (tp FT b) 3 = pn (fun j => if j = k then 1 else tp FT b j) 3 * tp FT b k := by
  constructor
  · rw [pn_mul hk]
    apply pn_congr
    intro j _
    by_cases e : j = k
    · subst e
      rw [if_pos rfl]
      unfold tp FK
      simp only [if_true]
    · rw [if_neg e]
      unfold tp FK FT
      simp only [e, if_false]
  · rw [pn_mul hk]
    apply pn_congr
    intro j _
    by_cases e : j = k
    · rw [if_pos e, e]
    · rw [if_neg e]
theorem ps_all {h : Nat → Nat} {n : Nat} {L : List ((Nat → Nat) × (Nat → Nat → Bool))} (I : LI h n (h 1) L) {k : Nat} (hk : k < 3) (S : Nat → Bool) : PS h (FK k S) L = PS h FT L ↔ ∀ b, b ∈ L → ∀ t, t < 64 → b.2 k t = true → S t = true := by
  have le : ∀ b : (Nat → Nat) × (Nat → Nat → Bool), tp (fun _ => S) b k ≤ tp FT b k := fun b => cnt_mono (fun i _ z => by
    unfold FT
    rw [Bool.and_true]
    cases r : b.2 k i
    · rw [r] at z; cases z
    · rfl)
  constructor
  · intro e b hb t ht hbt
    have q := sm_eq (l := L) (F := fun b => pn (WB b mI) (h 1) * pn (tp (FK k S) b) 3) (G := fun b => pn (WB b mI) (h 1) * pn (tp FT b) 3) (fun b _ => Nat.mul_le_mul_left _ (by
      rw [(tp_fk k S b hk).1, (tp_fk k S b hk).2]
      exact Nat.mul_le_mul_left _ (le b))) e b hb
    have q2 := Nat.eq_of_mul_eq_mul_left (wb_pos I hb mI) q
    rw [(tp_fk k S b hk).1, (tp_fk k S b hk).2] at q2
    have p1 : 0 < pn (fun j => if j = k then 1 else tp FT b j) 3 := by
      apply pn_pos
      intro j hj
      split
      · omega
      · obtain ⟨t, ht, hbt⟩ := (I.2.2 b hb).2.2.1 j hj
        unfold tp FT
        exact cnt_pos ht (by rw [hbt]; rfl)
    have q3 := Nat.eq_of_mul_eq_mul_left p1 q2
    cases r : S t
    · have lt : tp (fun _ => S) b k < tp FT b k := cnt_strict (j := t) (fun i _ z => by
        unfold FT
        rw [Bool.and_true]
        cases r : b.2 k i
        · rw [r] at z; cases z
        · rfl) ht (by show (b.2 k t && S t) = false; rw [r, Bool.and_false]) (by rw [hbt]; rfl)
      omega
    · rfl
  · intro z
    apply sm_congr
    intro b hb
    rw [(tp_fk k S b hk).1, (tp_fk k S b hk).2]
    congr 2
    unfold tp FT
    apply cnt_congr
    intro t ht
    cases r : b.2 k t
    · rfl
    · show (true && S t) = (true && true)
      rw [z b hb t ht r]
theorem ps_none {h : Nat → Nat} {n : Nat} {L : List ((Nat → Nat) × (Nat → Nat → Bool))} (I : LI h n (h 1) L) {k : Nat} (hk : k < 3) (S : Nat → Bool) : PS h (FK k S) L = 0 ↔ ∀ b, b ∈ L → ∀ t, t < 64 → b.2 k t = true → S t = false := by
  constructor
  · intro e b hb t ht hbt
    cases r : S t
    · rfl
    · exfalso
      have : 0 < PS h (FK k S) L := by
        refine sm_pos hb (Nat.mul_pos (wb_pos I hb mI) ?_)
        apply pn_pos
        intro j hj
        unfold tp FK
        by_cases e : j = k
        · subst e
          exact cnt_pos ht (by rw [if_pos rfl, hbt, r]; rfl)
        · obtain ⟨t', ht', hbt'⟩ := (I.2.2 b hb).2.2.1 j hj
          exact cnt_pos ht' (by rw [if_neg e, hbt']; rfl)
      omega
  · intro z
    apply sm_0
    intro b hb
    rw [(tp_fk k S b hk).1]
    have : tp (fun _ => S) b k = 0 := by
      apply cnt_0
      intro t ht
      cases r : b.2 k t
      · rfl
      · show (true && S t) = false
        rw [z b hb t ht r]
        rfl
    rw [this, Nat.mul_zero, Nat.mul_zero]
theorem cb_bits {h : Nat → Nat} {S : Nat → Nat} : ∀ {A : Nat} {c : Nat → Nat}, c ∈ cb h S A → (∀ a, a < A → (S a).testBit (c a) = true) ∧ ∀ a, A ≤ a → c a = fw h a
  | 0, c, hc => by
    have : c = fun i => fw h i := List.mem_singleton.mp hc
    rw [this]
    exact ⟨fun a ha => absurd ha (Nat.not_lt_zero a), fun _ _ => rfl⟩
  | A + 1, c, hc => by
    obtain ⟨c0, hc0, hm⟩ := List.mem_flatMap.mp (show c ∈ (cb h S A).flatMap (fun c => (fl (fun v => (S A).testBit v) 8 0).map (fun w => upN c A w)) from hc)
    obtain ⟨w, hw, rfl⟩ := List.mem_map.mp hm
    have hwb := ((fl_mem _ _ _ _).mp hw).2.2
    obtain ⟨i1, i2⟩ := cb_bits hc0
    refine ⟨fun a ha => ?_, fun a ha => ?_⟩
    · by_cases e : a = A
      · rw [e, upN_same]
        exact hwb
      · rw [upN_ne e]
        exact i1 a (by omega)
    · rw [upN_ne (by omega)]
      exact i2 a (by omega)
theorem cb_mem {h : Nat → Nat} {S : Nat → Nat} {f : Nat → Nat} : ∀ {A : Nat}, (∀ a, a < A → f a < 8 ∧ (S a).testBit (f a) = true) → (fun i => if i < A then f i else fw h i) ∈ cb h S A
  | 0, _ => by
    show _ ∈ [fun i => fw h i]
    rw [List.mem_singleton]
    funext i
    rw [if_neg (Nat.not_lt_zero i)]
  | A + 1, hf => by
    have ih := cb_mem (h := h) (A := A) (fun a ha => hf a (by omega))
    show _ ∈ (cb h S A).flatMap (fun c => (fl (fun v => (S A).testBit v) 8 0).map (fun w => upN c A w))
    apply List.mem_flatMap.mpr
    refine ⟨_, ih, List.mem_map.mpr ⟨f A, (fl_mem _ _ _ _).mpr ⟨Nat.zero_le _, by have := (hf A (by omega)).1; omega, (hf A (by omega)).2⟩, ?_⟩⟩
    funext i
    unfold upN
    by_cases e : i = A
    · rw [if_pos e, if_pos (by omega), e]
    · rw [if_neg e]
      show (if i < A then f i else fw h i) = _
      by_cases l : i < A
      · rw [if_pos l, if_pos (by omega)]
      · rw [if_neg l, if_neg (by omega)]
theorem nz_cb {h : Nat → Nat} {n : Nat} {L : List ((Nat → Nat) × (Nat → Nat → Bool))} (V : VH h) (I : LI h n (h 1) L) {b : (Nat → Nat) × (Nat → Nat → Bool)} (hb : b ∈ L) {c : Nat → Nat} (hc : c ∈ cb h b.1 (h 1)) : nz h n c = true := by
  unfold nz
  rw [← tp_pc V I (fun _ _ _ => rfl) hb hc]
  have := tp_pos I hb
  exact decide_eq_true (by omega)
theorem ex_link {h : Nat → Nat} {n : Nat} {L : List ((Nat → Nat) × (Nat → Nat → Bool))} (V : VH h) (I : LI h n (h 1) L) (p : (Nat → Nat) → Bool) : (∃ c, c ∈ cm h (h 1) ∧ nz h n c = true ∧ p c = true) ↔ ∃ b, b ∈ L ∧ ∃ c, c ∈ cb h b.1 (h 1) ∧ p c = true := by
  have key := I.2.1 (fun c => if nz h n c = true ∧ p c = true then 1 else 0) (fun c hc => by
    show (if nz h n c = true ∧ p c = true then 1 else 0) = 0
    rw [if_neg]
    rintro ⟨z, _⟩
    unfold nz at z
    rw [decide_eq_true_iff] at z
    exact z (van_pc FT hc))
  constructor
  · rintro ⟨c, hc, h1, h2⟩
    have : 0 < sm (fun c => if nz h n c = true ∧ p c = true then 1 else 0) (cm h (h 1)) := sm_pos hc (by rw [if_pos ⟨h1, h2⟩]; decide)
    rw [key] at this
    obtain ⟨b, hb, g⟩ := sm_ex this
    obtain ⟨c', hc', g'⟩ := sm_ex g
    refine ⟨b, hb, c', hc', ?_⟩
    by_cases q : nz h n c' = true ∧ p c' = true
    · exact q.2
    · rw [if_neg q] at g'
      cases g'
  · rintro ⟨b, hb, c, hc, h2⟩
    have : 0 < sm (fun b => sm (fun c => if nz h n c = true ∧ p c = true then 1 else 0) (cb h b.1 (h 1))) L := sm_pos hb (sm_pos hc (by rw [if_pos ⟨nz_cb V I hb hc, h2⟩]; decide))
    rw [← key] at this
    obtain ⟨c', hc', g'⟩ := sm_ex this
    refine ⟨c', hc', ?_⟩
    by_cases q : nz h n c' = true ∧ p c' = true
    · exact q
    · rw [if_neg q] at g'
      cases g'
theorem e_isEmpty {h : Nat → Nat} {d : DD} {first : Nat} {L : List ((Nat → Nat) × (Nat → Nat → Bool))} (X : GX h d first L) : f_X8_isEmpty d = some (bI (decide (L = [])), d) := by
  have X4 := X.2.2.2.1
  unfold f_X8_isEmpty
  rw [X.2.1, X.2.2.1]
  cases L with
  | nil =>
    rw [if_neg (by rw [nI_ltI (by omega) (by omega)]; exact Nat.lt_irrefl _)]
    rfl
  | cons b l =>
    rw [List.length_cons] at *
    rw [if_pos (by rw [nI_ltI (by omega) (by omega)]; omega)]
    rfl
