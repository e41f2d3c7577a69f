-- PURE ROWS: the branches' sums are the worlds' sums
theorem fl_cnt (p : Nat → Bool) : ∀ (m k : Nat), (fl p m k).length = cnt m (fun i => p (k + i))
  | 0, _ => rfl
  | m + 1, k => by
    have e : cnt (m + 1) (fun i => p (k + i)) = cnt (1 + m) (fun i => p (k + i)) := by rw [Nat.add_comm]
    rw [fl_s, e, cnt_add]
    have ih := fl_cnt p m (k + 1)
    have e2 : cnt m (fun i => p (k + (1 + i))) = cnt m (fun i => p (k + 1 + i)) := cnt_congr (fun i _ => by rw [Nat.add_assoc])
    rw [e2, ← ih]
    show _ = 0 + (if p k = true then 1 else 0) + (fl p m (k + 1)).length
    by_cases c : p k = true
    · rw [if_pos c, if_pos c, List.length_cons]
      omega
    · rw [if_neg c, if_neg c]
      omega
theorem sm_const {α : Type} (B : Nat) : ∀ (l : List α), sm (fun _ => B) l = l.length * B
  | [] => (Nat.zero_mul B).symm
  | x :: l => by
    show B + sm _ l = _
    rw [sm_const B l, List.length_cons, Nat.succ_mul]
    omega
theorem len_sm {α : Type} (l : List α) : l.length = sm (fun _ => 1) l := by
  rw [sm_const, Nat.mul_one]
theorem cb_len {h : Nat → Nat} (S : Nat → Nat) : ∀ (A : Nat), (cb h S A).length = pn (fun a => cnt 8 (fun i => (S a).testBit i)) A
  | 0 => rfl
  | A + 1 => by
    show ((cb h S A).flatMap (fun c => (fl (fun v => (S A).testBit v) 8 0).map (fun w => upN c A w))).length = _
    rw [len_sm, sm_flat]
    have e : sm (fun x => sm (fun _ => 1) (List.map (fun w => upN x A w) (fl (fun v => (S A).testBit v) 8 0))) (cb h S A) = sm (fun _ => cnt 8 (fun i => (S A).testBit i)) (cb h S A) := by
      apply sm_congr
      intro c _
      rw [← len_sm, List.length_map, fl_cnt]
      apply cnt_congr
      intro i _
      rw [Nat.zero_add]
    rw [e, sm_const, cb_len S A]
    rfl
theorem pn_ext {F : Nat → Nat} {m n : Nat} (hm : m ≤ n) (h : ∀ k, m ≤ k → k < n → F k = 1) : pn F n = pn F m := by
  obtain ⟨j, rfl⟩ := Nat.exists_eq_add_of_le hm
  induction j with
  | zero => rfl
  | succ j ih =>
    show pn F (m + j) * F (m + j) = pn F m
    rw [ih (by omega) (fun k h1 h2 => h k h1 (by omega)), h (m + j) (by omega) (by omega), Nat.mul_one]
theorem cnt_one {F : Nat → Bool} (h0 : F 0 = true) (h : ∀ i, 0 < i → F i = false) : cnt 64 F = 1 := by
  rw [cnt_ext (m := 1) (by decide) (fun i hi => h i hi)]
  show 0 + (if F 0 = true then 1 else 0) = 1
  rw [if_pos h0]
theorem tp_pc {h : Nat → Nat} (V : VH h) {n : Nat} {L : List ((Nat → Nat) × (Nat → Nat → Bool))} (I : LI h n (h 1) L) {F : Nat → Nat → Bool} (hF : ∀ k, h 0 ≤ k → k < 3 → F k 0 = true) {b : (Nat → Nat) × (Nat → Nat → Bool)} (hb : b ∈ L) {c : Nat → Nat} (hc : c ∈ cb h b.1 (h 1)) : pn (tp F b) 3 = pn (PC h n c F) (h 0) := by
  have v0 := V.1
  have i3 := I.2.2 b hb
  rw [pn_ext v0]
  · apply pn_congr
    intro k hk
    unfold tp PC
    apply cnt_congr
    intro t ht
    rw [i3.1 c hc k hk t ht]
    rfl
  · intro k h1 h2
    unfold tp
    rw [cnt_congr (Q := fun t => decide (t = 0) && F k t) (fun t ht => by rw [i3.2.1 k h1 h2 t ht])]
    apply cnt_one
    · rw [hF k h1 h2]
      rfl
    · intro i hi
      rw [decide_eq_false (by omega), Bool.false_and]
theorem van_pc {h : Nat → Nat} {n : Nat} (F : Nat → Nat → Bool) {c : Nat → Nat} (z : ∃ k, k < h 0 ∧ ∀ t, t < 64 → WA h n (h 1) c k t = false) : pn (PC h n c F) (h 0) = 0 := by
  obtain ⟨k, hk, hz⟩ := z
  refine pn_zero hk ?_
  unfold PC
  apply cnt_0
  intro t ht
  have : WM h n c k t = false := hz t ht
  rw [this, Bool.false_and]
theorem ps_gs {h : Nat → Nat} (V : VH h) {n : Nat} {L : List ((Nat → Nat) × (Nat → Nat → Bool))} (I : LI h n (h 1) L) {F : Nat → Nat → Bool} (hF : ∀ k, h 0 ≤ k → k < 3 → F k 0 = true) : PS h F L = GS h n F := by
  unfold PS GS
  rw [I.2.1 (fun c => pn (PC h n c F) (h 0)) (fun c hc => van_pc F hc)]
  apply sm_congr
  intro b hb
  have e : sm (fun c => pn (PC h n c F) (h 0)) (cb h b.1 (h 1)) = sm (fun _ => pn (tp F b) 3) (cb h b.1 (h 1)) := by
    apply sm_congr
    intro c hc
    exact (tp_pc V I hF hb hc).symm
  rw [e, sm_const, cb_len]
  congr 1
  apply pn_congr
  intro a ha
  have v1 := V.2.1
  unfold WB pcS
  rw [if_neg (fun z => (nI_mI (by omega)).mp z)]
theorem cb_way {h : Nat → Nat} (S : Nat → Nat) (a w : Nat) (hw : w < 8) : ∀ (A : Nat), a < A → sm (fun c => if c a = w then 1 else 0) (cb h S A) = if (S a).testBit w = true then pn (fun j => if j = a then 1 else cnt 8 (fun i => (S j).testBit i)) A else 0
  | 0, ha => absurd ha (Nat.not_lt_zero a)
  | A + 1, ha => by
    show sm _ ((cb h S A).flatMap (fun c => (fl (fun v => (S A).testBit v) 8 0).map (fun w => upN c A w))) = _
    rw [sm_flat]
    by_cases e : a = A
    · subst e
      have e1 : sm (fun x => sm (fun c => if c a = w then 1 else 0) (List.map (fun w => upN x a w) (fl (fun v => (S a).testBit v) 8 0))) (cb h S a) = sm (fun _ => if (S a).testBit w = true then 1 else 0) (cb h S a) := by
        apply sm_congr
        intro c _
        rw [sm_map, sm_bits]
        unfold mw
        rw [cs_congr (G := fun v => if v = w then (if (S a).testBit v = true then 1 else 0) else 0), cs_one hw]
        intro v _
        dsimp only
        rw [upN_same]
        by_cases q : v = w
        · rw [if_pos q, if_pos q]
        · rw [if_neg q, if_neg q, ite_self]
      rw [e1, sm_const, cb_len]
      by_cases q : (S a).testBit w = true
      · rw [if_pos q, if_pos q]
        show _ = pn _ a * (if a = a then 1 else _)
        rw [if_pos rfl]
        congr 1
        apply pn_congr
        intro j hj
        rw [if_neg (by omega)]
      · rw [if_neg q, if_neg q, Nat.mul_zero]
    · have ih := cb_way (h := h) S a w hw A (by omega)
      have e1 : sm (fun x => sm (fun c => if c a = w then 1 else 0) (List.map (fun w => upN x A w) (fl (fun v => (S A).testBit v) 8 0))) (cb h S A) = sm (fun c => (if c a = w then 1 else 0) * cnt 8 (fun i => (S A).testBit i)) (cb h S A) := by
        apply sm_congr
        intro c _
        rw [sm_map, sm_congr (G := fun _ => if c a = w then 1 else 0) (fun v _ => by rw [upN_ne e]), sm_const, fl_cnt, Nat.mul_comm, cnt_congr (fun i _ => by rw [Nat.zero_add])]
      have sm_mul : ∀ (l : List (Nat → Nat)) (B : Nat), sm (fun c => (if c a = w then 1 else 0) * B) l = sm (fun c => if c a = w then 1 else 0) l * B := by
        intro l B
        induction l with
        | nil => exact (Nat.zero_mul B).symm
        | cons x l ihl =>
          show _ + sm _ l = (_ + sm _ l) * B
          rw [ihl, Nat.add_mul]
      rw [e1, sm_mul, ih]
      by_cases q : (S a).testBit w = true
      · rw [if_pos q, if_pos q]
        show _ = pn _ A * (if A = a then 1 else _)
        rw [if_neg (fun z => e z.symm)]
      · rw [if_neg q, if_neg q, Nat.zero_mul]
theorem ww_wy {h : Nat → Nat} (V : VH h) {n : Nat} {L : List ((Nat → Nat) × (Nat → Nat → Bool))} (I : LI h n (h 1) L) {a w : Nat} (ha : a < h 1) (hw : w < 8) : WW h a w L = WY h n a w := by
  unfold WW WY
  rw [I.2.1 (fun c => if c a = w then pn (PC h n c FT) (h 0) else 0) (fun c hc => by
    show (if c a = w then pn (PC h n c FT) (h 0) else 0) = 0
    rw [van_pc FT hc, ite_self])]
  apply sm_congr
  intro b hb
  have e : sm (fun c => if c a = w then pn (PC h n c FT) (h 0) else 0) (cb h b.1 (h 1)) = sm (fun c => if c a = w then 1 else 0) (cb h b.1 (h 1)) * pn (tp FT b) 3 := by
    have : ∀ l : List (Nat → Nat), (∀ c, c ∈ l → c ∈ cb h b.1 (h 1)) → sm (fun c => if c a = w then pn (PC h n c FT) (h 0) else 0) l = sm (fun c => if c a = w then 1 else 0) l * pn (tp FT b) 3 := by
      intro l
      induction l with
      | nil => intro _; exact (Nat.zero_mul _).symm
      | cons x l ihl =>
        intro hl
        show (if x a = w then pn (PC h n x FT) (h 0) else 0) + sm _ l = ((if x a = w then 1 else 0) + sm _ l) * _
        rw [ihl (fun c hc => hl c (List.mem_cons_of_mem _ hc)), Nat.add_mul]
        congr 1
        by_cases q : x a = w
        · rw [if_pos q, if_pos q, Nat.one_mul]
          exact (tp_pc V I (fun _ _ _ => rfl) hb (hl x List.mem_cons_self)).symm
        · rw [if_neg q, if_neg q, Nat.zero_mul]
    exact this _ (fun _ hc => hc)
  rw [e, cb_way b.1 a w hw (h 1) ha]
  have v1 := V.2.1
  have ep : pn (WB b (nI a)) (h 1) = pn (fun j => if j = a then 1 else cnt 8 (fun i => (b.1 j).testBit i)) (h 1) := by
    apply pn_congr
    intro j hj
    unfold WB pcS
    by_cases q : j = a
    · rw [if_pos (by rw [q]), if_pos q]
    · rw [if_neg (fun z => q ((nI_eq (by omega) (by omega)).mp z)), if_neg q]
  rw [ep]
  by_cases q : (b.1 a).testBit w = true
  · rw [if_pos q, if_pos q]
  · rw [if_neg q, if_neg q, Nat.zero_mul]
