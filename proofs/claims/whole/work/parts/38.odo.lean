-- PURE ROWS: the model's odometer over the ways
def fl (p : Nat → Bool) : Nat → Nat → List Nat
  | 0, _ => []
  | m + 1, k => if p k = true then k :: fl p m (k + 1) else fl p m (k + 1)
def MW (h : Nat → Nat) : Nat := 2 + 2 * h 0
def wb (h : Nat → Nat) (a w : Nat) : Bool := (h (11 + a)).testBit w
def wl (h : Nat → Nat) (a : Nat) : List Nat := fl (wb h a) (MW h) 0
def fw (h : Nat → Nat) (a : Nat) : Nat := (wl h a).head?.getD 0
def upN (c : Nat → Nat) (a w : Nat) : Nat → Nat := fun i => if i = a then w else c i
def nx (h : Nat → Nat) : Nat → (Nat → Nat) → Option (Nat → Nat)
  | 0, _ => none
  | a + 1, c => match (fl (wb h a) (MW h - (c a + 1)) (c a + 1)).head? with
    | some w => some (upN c a w)
    | none => nx h a (upN c a (fw h a))
def cm (h : Nat → Nat) : Nat → List (Nat → Nat)
  | 0 => [fun i => fw h i]
  | a + 1 => (cm h a).flatMap (fun c => (wl h a).map (fun w => upN c a w))
def chx {α : Type} (f : α → Option α) : List α → Option α → Prop
  | [], _ => True
  | [x], e => f x = e
  | x :: y :: l, e => f x = some y ∧ chx f (y :: l) e
theorem chx_cons {α : Type} {f : α → Option α} {x : α} {l : List α} {e : Option α} (h1 : f x = (match l with | [] => e | y :: _ => some y)) (h2 : chx f l e) : chx f (x :: l) e := by
  cases l with
  | nil => exact h1
  | cons y l => exact ⟨h1, h2⟩
theorem chx_app {α : Type} {f : α → Option α} {y : α} {l2 : List α} {e : Option α} (h2 : chx f (y :: l2) e) : ∀ {l1 : List α}, chx f l1 (some y) → chx f (l1 ++ y :: l2) e
  | [], _ => h2
  | [x], h1 => ⟨h1, h2⟩
  | x :: z :: l1, h1 => ⟨h1.1, chx_app h2 (l1 := z :: l1) h1.2⟩
theorem fl_s (p : Nat → Bool) (m k : Nat) : fl p (m + 1) k = if p k = true then k :: fl p m (k + 1) else fl p m (k + 1) := rfl
theorem nx_s (h : Nat → Nat) (a : Nat) (c : Nat → Nat) : nx h (a + 1) c = (match (fl (wb h a) (MW h - (c a + 1)) (c a + 1)).head? with
    | some w => some (upN c a w)
    | none => nx h a (upN c a (fw h a))) := rfl
theorem fl_chx (p : Nat → Bool) (M : Nat) : ∀ (m k : Nat), k + m = M → chx (fun w => (fl p (M - (w + 1)) (w + 1)).head?) (fl p m k) none
  | 0, _, _ => trivial
  | m + 1, k, hk => by
    have ih := fl_chx p M m (k + 1) (by omega)
    rw [fl_s]
    by_cases c : p k = true
    · rw [if_pos c]
      refine chx_cons ?_ ih
      rw [show M - (k + 1) = m by omega]
      cases fl p m (k + 1) <;> rfl
    · rw [if_neg c]
      exact ih
theorem fl_mem (p : Nat → Bool) : ∀ (m k w : Nat), w ∈ fl p m k ↔ (k ≤ w ∧ w < k + m ∧ p w = true)
  | 0, k, w => by
    unfold fl
    simp
    omega
  | m + 1, k, w => by
    rw [fl_s]
    have ih := fl_mem p m (k + 1) w
    by_cases c : p k = true
    · rw [if_pos c, List.mem_cons, ih]
      constructor
      · rintro (rfl | ⟨h1, h2, h3⟩)
        · exact ⟨Nat.le_refl _, by omega, c⟩
        · exact ⟨by omega, by omega, h3⟩
      · rintro ⟨h1, h2, h3⟩
        rcases Nat.eq_or_lt_of_le h1 with z | z
        · exact Or.inl z.symm
        · exact Or.inr ⟨z, by omega, h3⟩
    · rw [if_neg c, ih]
      constructor
      · rintro ⟨h1, h2, h3⟩
        exact ⟨by omega, by omega, h3⟩
      · rintro ⟨h1, h2, h3⟩
        rcases Nat.eq_or_lt_of_le h1 with z | z
        · subst z
          exact absurd h3 c
        · exact ⟨z, by omega, h3⟩
theorem wl_ne {h : Nat → Nat} (V : VH h) {a : Nat} (ha : a < h 1) : ∃ l, wl h a = fw h a :: l := by
  have v := V.2.2.2.1 a ha
  cases e : wl h a with
  | nil =>
    exfalso
    have z : h (11 + a) = 0 := by
      apply Nat.eq_of_testBit_eq
      intro i
      rw [Nat.zero_testBit]
      rcases Nat.lt_or_ge i (2 + 2 * h 0) with c | c
      · cases q : (h (11 + a)).testBit i
        · rfl
        · have : i ∈ wl h a := (fl_mem _ _ _ _).mpr ⟨Nat.zero_le _, by unfold MW; omega, q⟩
          rw [e] at this
          cases this
      · exact Nat.testBit_lt_two_pow (Nat.lt_of_lt_of_le v.2 (Nat.pow_le_pow_right (by decide) c))
    omega
  | cons x l =>
    refine ⟨l, ?_⟩
    unfold fw
    rw [e]
    rfl
theorem fw_mem {h : Nat → Nat} (V : VH h) {a : Nat} (ha : a < h 1) : fw h a ∈ wl h a := by
  obtain ⟨l, e⟩ := wl_ne V ha
  rw [e]
  exact List.mem_cons_self
theorem upN_same (c : Nat → Nat) (a w : Nat) : upN c a w a = w := if_pos rfl
theorem upN_ne {c : Nat → Nat} {a w i : Nat} (h : i ≠ a) : upN c a w i = c i := if_neg h
theorem upN_up (c : Nat → Nat) (a w v : Nat) : upN (upN c a w) a v = upN c a v := by
  funext i
  unfold upN
  by_cases e : i = a <;> simp [e]
theorem upN_id {c : Nat → Nat} {a w : Nat} (h : c a = w) : upN c a w = c := by
  funext i
  unfold upN
  by_cases e : i = a
  · rw [if_pos e, e, h]
  · rw [if_neg e]
theorem cm_hi {h : Nat → Nat} : ∀ (a : Nat) (c : Nat → Nat), c ∈ cm h a → ∀ i, a ≤ i → c i = fw h i
  | 0, c, hc, i, _ => by
    unfold cm at hc
    rw [List.mem_singleton.mp hc]
  | a + 1, c, hc, i, hi => by
    unfold cm at hc
    obtain ⟨c', hc', hm⟩ := List.mem_flatMap.mp hc
    obtain ⟨w, _, rfl⟩ := List.mem_map.mp hm
    rw [upN_ne (by omega)]
    exact cm_hi a c' hc' i (by omega)
theorem cm_lo {h : Nat → Nat} : ∀ (a : Nat) (c : Nat → Nat), c ∈ cm h a → ∀ i, i < a → c i ∈ wl h i
  | 0, _, _, i, hi => absurd hi (Nat.not_lt_zero i)
  | a + 1, c, hc, i, hi => by
    unfold cm at hc
    obtain ⟨c', hc', hm⟩ := List.mem_flatMap.mp hc
    obtain ⟨w, hw, rfl⟩ := List.mem_map.mp hm
    by_cases e : i = a
    · subst e
      rw [upN_same]
      exact hw
    · rw [upN_ne e]
      exact cm_lo a c' hc' i (by omega)
theorem blk_chx {h : Nat → Nat} {a : Nat} {x : Nat → Nat} (hx : x a = fw h a) : ∀ (l : List Nat) , chx (fun w => (fl (wb h a) (MW h - (w + 1)) (w + 1)).head?) l none → chx (nx h (a + 1)) (l.map (fun w => upN x a w)) (nx h a x)
  | [], _ => trivial
  | [w], e => by
    show nx h (a + 1) (upN x a w) = nx h a x
    rw [nx_s]
    have e' : (fl (wb h a) (MW h - (w + 1)) (w + 1)).head? = none := e
    rw [upN_same, e', upN_up, upN_id hx]
  | w :: v :: l, e => by
    refine ⟨?_, blk_chx hx (v :: l) e.2⟩
    show nx h (a + 1) (upN x a w) = some (upN x a v)
    rw [nx_s]
    have e' : (fl (wb h a) (MW h - (w + 1)) (w + 1)).head? = some v := e.1
    rw [upN_same, e']
    show some (upN (upN x a w) a v) = _
    rw [upN_up]
theorem flat_chx {h : Nat → Nat} (V : VH h) {a : Nat} (ha : a < h 1) : ∀ (L : List (Nat → Nat)), (∀ x, x ∈ L → x a = fw h a) → chx (nx h a) L none → chx (nx h (a + 1)) (L.flatMap (fun c => (wl h a).map (fun w => upN c a w))) none
  | [], _, _ => trivial
  | [x], hx, e => by
    have b := blk_chx (hx x List.mem_cons_self) (wl h a) (fl_chx _ _ _ _ (by omega))
    have e' : nx h a x = none := e
    rw [e'] at b
    rw [List.flatMap_cons, List.flatMap_nil, List.append_nil]
    exact b
  | x :: y :: L, hx, e => by
    have ih := flat_chx V ha (y :: L) (fun z hz => hx z (List.mem_cons_of_mem _ hz)) e.2
    have b := blk_chx (hx x List.mem_cons_self) (wl h a) (fl_chx _ _ _ _ (by omega))
    rw [e.1] at b
    obtain ⟨l, el⟩ := wl_ne V ha
    have hd : ∃ r, (y :: L).flatMap (fun c => (wl h a).map (fun w => upN c a w)) = y :: r := by
      rw [List.flatMap_cons, el, List.map_cons, upN_id (hx y (List.mem_cons_of_mem _ List.mem_cons_self)), List.cons_append]
      exact ⟨_, rfl⟩
    obtain ⟨r, er⟩ := hd
    rw [List.flatMap_cons, er]
    rw [er] at ih
    exact chx_app ih b
theorem cm_chx {h : Nat → Nat} (V : VH h) : ∀ (a : Nat), a ≤ h 1 → chx (nx h a) (cm h a) none
  | 0, _ => rfl
  | a + 1, ha => flat_chx V (by omega) (cm h a) (fun x hx => cm_hi a x hx a (Nat.le_refl _)) (cm_chx V a (by omega))
theorem cm_head {h : Nat → Nat} (V : VH h) : ∀ (a : Nat), a ≤ h 1 → ∃ l, cm h a = (fun i => fw h i) :: l
  | 0, _ => ⟨[], rfl⟩
  | a + 1, ha => by
    obtain ⟨l, e⟩ := cm_head V a (by omega)
    obtain ⟨l2, e2⟩ := wl_ne V (a := a) (by omega)
    unfold cm
    rw [e, List.flatMap_cons, e2, List.map_cons, upN_id rfl, List.cons_append]
    exact ⟨_, rfl⟩
