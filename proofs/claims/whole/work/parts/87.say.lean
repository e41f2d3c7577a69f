-- PURE ROWS: the table: one says; the rounds
theorem mk_g1 {t : Nat} {X : Nat → Bool} (ht : t < 64) (hx : X t = true) : mkL (fun i => decide (i < t) && X i) ||| ((1 : Int64) <<< ((nI t).toInt64 &&& 63)) = mkL (fun i => decide (i < t + 1) && X i) := by
  rw [show ((1 : Int64) <<< ((nI t).toInt64 &&& 63)) = mkL (fun i => decide (i = t)) from mk_bit ht, mk_or]
  apply mk_congr
  intro i _
  by_cases c : i = t
  · subst c
    rw [decide_eq_true (p := i = i) rfl, decide_eq_true (p := i < i + 1) (by omega), hx, Bool.or_true]
    rfl
  · rw [decide_eq_false c, Bool.or_false]
    by_cases c2 : i < t
    · rw [decide_eq_true c2, decide_eq_true (p := i < t + 1) (by omega)]
    · rw [decide_eq_false c2, decide_eq_false (p := i < t + 1) (by omega)]
theorem mk_g0 {t : Nat} {X : Nat → Bool} (hx : X t = false) : mkL (fun i => decide (i < t) && X i) = mkL (fun i => decide (i < t + 1) && X i) := by
  apply mk_congr
  intro i _
  by_cases c : i = t
  · subst c
    rw [hx, Bool.and_false, Bool.and_false]
  · by_cases c2 : i < t
    · rw [decide_eq_true c2, decide_eq_true (p := i < t + 1) (by omega)]
    · rw [decide_eq_false c2, decide_eq_false (p := i < t + 1) (by omega)]
def sX (N lo lk : Nat) (b : Bool) (P : Nat → Bool) (t : Nat) : Bool := P t && (ao N lo lk P t == b)
def stp (N lo lk tr : Nat) (P : Nat → Bool) : Nat → Bool := fun t => decide (t < N) && sX N lo lk (ao N lo lk P tr) P t
theorem mkL_st0 (X : Nat → Bool) : (0 : Int64) = mkL (fun i => decide (i < 0) && X i) := by
  rw [show (0 : Int64) = lN 0 from rfl, mk_0]
  apply mk_congr
  intro i _
  rw [decide_eq_false (p := i < 0) (by omega), Bool.false_and]
theorem sy_l {d : DD} {lo N lk : Nat} {P : Nat → Bool} (b : Bool) (hN : N ≤ 36) (h4 : d.1 83 4 = nI N) (h85 : ∀ t, t < N → d.1 85 t = nI (Hs lo t)) (hlk : lk < 2 ^ 30) : ∀ (m t f : Nat), t + m = N → m < f → f_X4_say_47 f (mkL P) (nI lk) (bI b) (mkL (fun i => decide (i < t) && sX N lo lk b P i)) (nI t) d = some (mkL (fun i => decide (i < N) && sX N lo lk b P i), d) := by
  intro m
  induction m with
  | zero =>
    intro t f ht hf
    cases f with
    | zero => omega
    | succ f =>
      show f_X4_say_47B (f_X4_say_47 f) _ _ _ _ _ _ = _
      unfold f_X4_say_47B
      have e : t = N := by omega
      subst e
      rw [h4, if_neg (by rw [nI_ltI (by omega) (by omega)]; omega)]
  | succ m ih =>
    intro t f ht hf
    cases f with
    | zero => omega
    | succ f =>
      have s := ih (t + 1) f (by omega) (by omega)
      show f_X4_say_47B (f_X4_say_47 f) _ _ _ _ _ _ = _
      unfold f_X4_say_47B
      have hb : ((lushr (mkL P) (nI t)) &&& (1 : Int64) = (1 : Int64)) ↔ P t = true := by
        rw [← bl_mk (P := P) (show t < 64 by omega)]
        exact lx_uhas (by omega)
      rw [h4, if_pos (by rw [nI_ltI (by omega) (by omega)]; omega), nI_1]
      by_cases c1 : P t = true
      · rw [if_pos (hb.mpr c1), e_isAlone P hN h4 h85 (by omega) hlk, ob_e]
        dsimp only
        by_cases c2 : ao N lo lk P t = b
        · have ex : sX N lo lk b P t = true := by unfold sX; rw [c1, c2]; cases b <;> rfl
          rw [if_pos (by rw [c2]), bd_e, mk_g1 (by omega) ex]
          exact s
        · have ex : sX N lo lk b P t = false := by
            unfold sX
            rw [c1, Bool.true_and]
            exact beq_eq_false_iff_ne.mpr c2
          rw [if_neg (fun z => c2 ((bI_e _ _).mp z)), mk_g0 ex]
          exact s
      · have ex : sX N lo lk b P t = false := by unfold sX; rw [Bool.not_eq_true] at c1; rw [c1, Bool.false_and]
        rw [if_neg (fun z => c1 (hb.mp z)), mk_g0 ex]
        exact s
theorem e_say {d : DD} {lo N lk tr j : Nat} (P : Nat → Bool) (hN : N ≤ 36) (h4 : d.1 83 4 = nI N) (h85 : ∀ t, t < N → d.1 85 t = nI (Hs lo t)) (hlk : lk < 2 ^ 30) (htr : tr < N) (h0 : d.1 83 0 = nI j) (hj : j < 148) : f_X4_say (mkL P) (nI tr) (nI lk) d = some (mkL (stp N lo lk tr P), u1 (u1 d 84 j (bI (ao N lo lk P tr))) 83 0 (nI (j + 1))) := by
  have st : ∀ b, f_X4_say_47 FU (mkL P) (nI lk) (bI b) (0 : Int64) (0 : Int32) (u1 (u1 d 84 j (bI b)) 83 0 (nI (j + 1))) = some (mkL (fun i => decide (i < N) && sX N lo lk b P i), u1 (u1 d 84 j (bI b)) 83 0 (nI (j + 1))) := by
    intro b
    have q := sy_l (d := u1 (u1 d 84 j (bI b)) 83 0 (nI (j + 1))) (P := P) b hN (by rw [u1_at, if_neg (by omega), u1_at, if_neg (by omega)]; exact h4) (fun t ht => by rw [u1_at, if_neg (by omega), u1_at, if_neg (by omega)]; exact h85 t ht) hlk N 0 FU (by omega) (by unfold FU; omega)
    rw [← mkL_st0] at q
    exact q
  have wr : ∀ x : Int32, wr1 d 84 (nI j) x = u1 d 84 j x := fun x => wr1_in (by rw [ln_84]; omega)
  have rd : ∀ x : Int32, (u1 d 84 j x).1 83 0 = nI j := fun x => by rw [u1_at, if_neg (by omega)]; exact h0
  unfold f_X4_say stp
  rw [e_isAlone P hN h4 h85 htr hlk, ob_e]
  dsimp only
  rw [h0]
  cases q : ao N lo lk P tr
  · rw [if_pos (show bI false = 0 from rfl), e_X9_put, ob_e, wr]
    dsimp only
    rw [rd, bd_e, nI_1]
    exact st false
  · rw [if_neg (show ¬ bI true = 0 by decide), e_X9_put, ob_e, wr]
    dsimp only
    rw [rd, bd_e, nI_1]
    exact st true
-- the rounds
def PQ (N lo tr : Nat) (L : Nat → Nat) (n : Nat) : Nat → Nat → Bool
  | 0 => fun t => decide (t < N)
  | j + 1 => stp N lo (L (j % n)) tr (PQ N lo tr L n j)
def SY (N lo tr : Nat) (L : Nat → Nat) (n j : Nat) : Bool := ao N lo (L (j % n)) (PQ N lo tr L n j) tr
theorem pq_dn {N lo tr : Nat} {L : Nat → Nat} {n j t : Nat} (h : PQ N lo tr L n (j + 1) t = true) : PQ N lo tr L n j t = true := by
  have e : PQ N lo tr L n (j + 1) t = (decide (t < N) && (PQ N lo tr L n j t && (ao N lo (L (j % n)) (PQ N lo tr L n j) t == ao N lo (L (j % n)) (PQ N lo tr L n j) tr))) := rfl
  rw [e, Bool.and_eq_true, Bool.and_eq_true] at h
  exact h.2.1
theorem pq_dns {N lo tr : Nat} {L : Nat → Nat} {n t : Nat} : ∀ {m j : Nat}, PQ N lo tr L n (j + m) t = true → PQ N lo tr L n j t = true
  | 0, _, h => h
  | m + 1, _, h => pq_dns (m := m) (pq_dn h)
def stq (N lo tr : Nat) (L : Nat → Nat) (n r : Nat) : Prop := mkL (PQ N lo tr L n ((r + 1) * n)) = mkL (PQ N lo tr L n (r * n))
theorem least_r {S : Nat → Prop} : ∀ m : Nat, (∃ r, r < m ∧ S r) → ∃ R, R < m ∧ S R ∧ ∀ r, r < R → ¬ S r
  | 0, ⟨_, h, _⟩ => absurd h (Nat.not_lt_zero _)
  | m + 1, ⟨r, h, s⟩ => by
    by_cases c : ∃ r, r < m ∧ S r
    · obtain ⟨R, a, b, c⟩ := least_r m c
      exact ⟨R, by omega, b, c⟩
    · have e : r = m := by
        apply Classical.byContradiction
        intro z
        exact c ⟨r, by omega, s⟩
      subst e
      exact ⟨r, h, s, fun q hq z => c ⟨q, hq, z⟩⟩
theorem ex_R {N lo tr : Nat} {L : Nat → Nat} {n : Nat} (hN : N ≤ 36) : ∃ R, R < 37 ∧ stq N lo tr L n R ∧ ∀ r, r < R → ¬ stq N lo tr L n r := by
  apply least_r
  apply Classical.byContradiction
  intro no
  have dec : ∀ r, r ≤ 37 → cnt 64 (PQ N lo tr L n (r * n)) + r ≤ N := by
    intro r
    induction r with
    | zero =>
      intro _
      rw [Nat.zero_mul]
      show cnt 64 (fun t => decide (t < N)) + 0 ≤ N
      have e : cnt 64 (fun t => decide (t < N)) = cnt N (fun t => decide (t < N)) := cnt_ext (by omega) (fun i hi => decide_eq_false (by omega))
      have := cnt_le N (fun t => decide (t < N))
      omega
    | succ r ih =>
      intro hr
      have i := ih (by omega)
      have ns : ¬ stq N lo tr L n r := fun z => no ⟨r, by omega, z⟩
      unfold stq at ns
      rw [mk_eq] at ns
      have sub : ∀ t, PQ N lo tr L n ((r + 1) * n) t = true → PQ N lo tr L n (r * n) t = true := by
        intro t ht
        rw [Nat.succ_mul] at ht
        exact pq_dns ht
      have ex : ∃ t, t < 64 ∧ PQ N lo tr L n ((r + 1) * n) t = false ∧ PQ N lo tr L n (r * n) t = true := by
        obtain ⟨t, ht, q⟩ := not_all ns
        refine ⟨t, ht, ?_⟩
        cases q1 : PQ N lo tr L n ((r + 1) * n) t
        · cases q2 : PQ N lo tr L n (r * n) t
          · exact absurd (q1.trans q2.symm) q
          · exact ⟨rfl, rfl⟩
        · have := sub t q1
          exact absurd (q1.trans this.symm) q
      obtain ⟨t, ht, q1, q2⟩ := ex
      have := cnt_strict (n := 64) (fun i _ => sub i) ht q1 q2
      omega
  have := dec 37 (Nat.le_refl _)
  omega
theorem rn_mod {r n i : Nat} (hi : i < n) : (r * n + i) % n = i := by
  rw [Nat.add_comm, Nat.add_mul_mod_self_right]
  exact Nat.mod_eq_of_lt hi
