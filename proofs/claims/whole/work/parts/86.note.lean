-- PURE ROWS: the table: hours of each timetable (class); who is alone
def Hs (lo t : Nat) : Nat := mkN 30 (fun u => pa lo t u)
theorem hs_lt (lo t : Nat) : Hs lo t < 2 ^ 30 := mkN_lt _ _
def NI (lo n : Nat) (d0 d : DD) : Prop := FR [83, 84, 85] d0 d ∧ d.1 83 4 = nI n ∧ ∀ t, t < n → d.1 85 t = nI (Hs lo t)
theorem ni_s {lo n : Nat} {d0 d : DD} (I : NI lo n d0 d) : NI lo (n + 1) d0 (u1 (u1 d 85 n (nI (Hs lo n))) 83 4 (nI (n + 1))) := by
  refine ⟨fr_u1 (fr_u1 I.1 (by decide)) (by decide), ?_, fun t ht => ?_⟩
  · rw [u1_at, if_pos ⟨rfl, rfl⟩]
  · rw [u1_at, if_neg (by omega), u1_at]
    by_cases c : t = n
    · rw [if_pos ⟨rfl, c⟩, c]
    · rw [if_neg (fun z => c z.2)]
      exact I.2.2 t (by omega)
theorem nh39 {d : DD} {n p ph : Nat} (hn : n < 36) (h4 : d.1 83 4 = nI n) (hp : 1 ≤ p) (hp8 : p ≤ 8) (k7 : Int32 → Int32 → Int32 → DD → Option (Unit × DD)) (k16 : Int32 → Int32 → Int32 → Int32 → DD → Option (Unit × DD)) (v1 v2 : Int32) : ∀ (m u f : Nat), 38 ≤ u + m → m < f → u < 38 → u % p = ph → f_X4_noteHours_39 k7 k16 f v1 v2 (nI p) (nI ph) (nI (mkN 30 (fun i => decide (i < u) && decide (i % p = ph)))) (nI u) d = k16 v1 v2 (nI p) (nI (ph + 1)) (u1 (u1 d 85 n (nI (mkN 30 (fun i => decide (i % p = ph))))) 83 4 (nI (n + 1))) := by
  intro m
  induction m with
  | zero =>
    intro u f hu hf hu2 _
    omega
  | succ m ih =>
    intro u f hu hf hu2 hm
    cases f with
    | zero => omega
    | succ f =>
      show f_X4_noteHours_39B k7 k16 (f_X4_noteHours_39 k7 k16 f) _ _ _ _ _ _ _ = _
      unfold f_X4_noteHours_39B
      by_cases c : u < 30
      · rw [if_pos (by rw [nI_lit, nI_ltI (by omega) (by omega)]; exact c), bd_e, bd_e]
        simp only [nI_lit]
        rw [q_shl (by omega), nx_or, mkN_set c, nI_add]
        have e : mkN 30 (fun i => (decide (i < u) && decide (i % p = ph)) || decide (u = i)) = mkN 30 (fun i => decide (i < u + p) && decide (i % p = ph)) := by
          apply mkN_congr
          intro i _
          rw [Bool.eq_iff_iff]
          simp only [Bool.or_eq_true, Bool.and_eq_true, decide_eq_true_iff]
          constructor
          · rintro (⟨a, b⟩ | a)
            · exact ⟨by omega, b⟩
            · subst a
              exact ⟨by omega, hm⟩
          · rintro ⟨a, b⟩
            by_cases z : i < u
            · exact Or.inl ⟨z, b⟩
            · right
              have d1 := Nat.div_add_mod i p
              have d2 := Nat.div_add_mod u p
              rw [b] at d1
              rw [hm] at d2
              have q : i / p = u / p := by
                rcases Nat.lt_trichotomy (i / p) (u / p) with w | w | w
                · have := Nat.mul_le_mul_left p (show i / p + 1 ≤ u / p from w)
                  rw [Nat.mul_succ] at this
                  omega
                · exact w
                · have := Nat.mul_le_mul_left p (show u / p + 1 ≤ i / p from w)
                  rw [Nat.mul_succ] at this
                  omega
              rw [q] at d1
              omega
        rw [e]
        exact ih (u + p) f (by omega) (by omega) (by omega) (by rw [Nat.add_mod_right]; exact hm)
      · rw [if_neg (by rw [nI_lit, nI_ltI (by omega) (by omega)]; exact c), h4, e_X9_put, ob_e, wr1_in (by rw [ln_85]; exact hn)]
        dsimp only
        rw [show (u1 d 85 n (nI (mkN 30 (fun i => decide (i < u) && decide (i % p = ph))))).1 83 4 = nI n from by rw [u1_at, if_neg (by omega)]; exact h4, bd_e, nI_1, nI_1]
        have e : mkN 30 (fun i => decide (i < u) && decide (i % p = ph)) = mkN 30 (fun i => decide (i % p = ph)) := by
          apply mkN_congr
          intro i hi
          rw [decide_eq_true (p := i < u) (by omega), Bool.true_and]
        rw [e]
theorem nh16 {lo hi p : Nat} {d0 : DD} (h1 : 1 ≤ lo) (hp1 : lo ≤ p) (hp2 : p ≤ hi) (h8 : hi ≤ 8) (k7 : Int32 → Int32 → Int32 → DD → Option (Unit × DD)) (Q : Unit → DD → Prop) (K : ∀ d, NI lo (fo lo (p + 1)) d0 d → OW (k7 (nI lo) (nI hi) (nI (p + 1)) d) Q) : ∀ (m ph f : Nat) (d : DD), ph + m = p → m < f → NI lo (fo lo p + ph) d0 d → OW (f_X4_noteHours_16 k7 f (nI lo) (nI hi) (nI p) (nI ph) d) Q := by
  have fe : fo lo (p + 1) = fo lo p + p := by
    show fo lo p + (if lo ≤ p then p else 0) = _
    rw [if_pos hp1]
  have f36 := fo_le lo (p + 1) (by omega)
  intro m
  induction m with
  | zero =>
    intro ph f d hm hf I
    cases f with
    | zero => omega
    | succ f =>
      show OW (f_X4_noteHours_16B k7 (f_X4_noteHours_16 k7 f) _ _ _ _ _) Q
      unfold f_X4_noteHours_16B
      have e : ph = p := by omega
      subst e
      rw [if_neg (by rw [nI_ltI (by omega) (by omega)]; omega), nI_1]
      rw [← fe] at I
      exact K d I
  | succ m ih =>
    intro ph f d hm hf I
    cases f with
    | zero => omega
    | succ f =>
      show OW (f_X4_noteHours_16B k7 (f_X4_noteHours_16 k7 f) _ _ _ _ _) Q
      unfold f_X4_noteHours_16B
      rw [if_pos (by rw [nI_ltI (by omega) (by omega)]; omega), if_neg (by rw [nI_ltI (by omega) (by omega)]; omega), if_neg (by rw [nI_ltI (by omega) (by omega)]; omega)]
      have s := nh39 (d := d) (n := fo lo p + ph) (p := p) (ph := ph) (by omega) I.2.1 (by omega) (by omega) k7 (f_X4_noteHours_16 k7 f) (nI lo) (nI hi) (38 - ph) ph FU (by omega) (by unfold FU; omega) (by omega) (Nat.mod_eq_of_lt (by omega))
      have z : (0 : Int32) = nI (mkN 30 (fun i => decide (i < ph) && decide (i % p = ph))) := by
        have : mkN 30 (fun i => decide (i < ph) && decide (i % p = ph)) = mkN 30 (fun _ => false) := by
          apply mkN_congr
          intro i _
          by_cases c : i < ph
          · rw [decide_eq_false (p := i % p = ph) (by rw [Nat.mod_eq_of_lt (by omega)]; omega), Bool.and_false]
          · rw [decide_eq_false c, Bool.false_and]
        rw [this, ← mkN_0]
        rfl
      have eh : mkN 30 (fun i => decide (i % p = ph)) = Hs lo (fo lo p + ph) := mkN_congr (fun i _ => (pa_at (i := i) h1 hp1 (by omega) (show ph < p by omega)).symm)
      rw [z, s, eh]
      exact ih (ph + 1) f _ (by omega) (by omega) (ni_s I)
theorem nh7 {lo hi : Nat} {d0 : DD} (h1 : 1 ≤ lo) (hlh : lo ≤ hi) (h8 : hi ≤ 8) : ∀ (m p f : Nat) (d : DD), p + m = 9 → m < f → 1 ≤ p → NI lo (fo lo (min (hi + 1) p)) d0 d → OW (f_X4_noteHours_7 f (nI lo) (nI hi) (nI p) d) (fun _ d' => NI lo (tn lo hi) d0 d') := by
  intro m
  induction m with
  | zero =>
    intro p f d hm hf hp I
    cases f with
    | zero => omega
    | succ f =>
      show OW (f_X4_noteHours_7B (f_X4_noteHours_7 f) _ _ _ _) _
      unfold f_X4_noteHours_7B
      have e : p = 9 := by omega
      subst e
      rw [if_pos (by decide)]
      rw [Nat.min_eq_left (by omega)] at I
      exact ow_ret I
  | succ m ih =>
    intro p f d hm hf hp I
    cases f with
    | zero => omega
    | succ f =>
      show OW (f_X4_noteHours_7B (f_X4_noteHours_7 f) _ _ _ _) _
      unfold f_X4_noteHours_7B
      have st := fo_step (lo := lo) (p := hi + 1) (q := p)
      rw [if_neg (show ¬ (8 : Int32) < nI p from fun z => by have := (nI_ltI (a := 8) (by omega) (by omega)).mp z; omega)]
      by_cases c : lo ≤ p ∧ p < hi + 1
      · rw [if_pos c, Nat.min_eq_right (show p ≤ hi + 1 by omega)] at st
        rw [Nat.min_eq_right (show p ≤ hi + 1 by omega)] at I
        refine nh16 h1 c.1 (by omega) h8 _ _ (fun d' I' => ?_) p 0 FU d (by omega) (by unfold FU; omega) I
        refine ih (p + 1) f d' (by omega) (by omega) (by omega) ?_
        rw [Nat.min_eq_right (show p + 1 ≤ hi + 1 by omega)]
        exact I'
      · have st2 : fo lo (min (hi + 1) (p + 1)) = fo lo (min (hi + 1) p) := st.trans (by simp only [if_neg c, Nat.add_zero])
        rw [← st2] at I
        have nx := ih (p + 1) f d (by omega) (by omega) (by omega) I
        show OW (f_X4_noteHours_16B (f_X4_noteHours_7 f) (f_X4_noteHours_16 (f_X4_noteHours_7 f) 4999) _ _ _ _ _) _
        unfold f_X4_noteHours_16B
        rw [if_pos (show (0 : Int32) < nI p from (nI_ltI (a := 0) (by omega) (by omega)).mpr (by omega)), nI_1]
        by_cases c1 : p < lo
        · rw [if_pos (by rw [nI_ltI (by omega) (by omega)]; exact c1)]
          exact nx
        · rw [if_neg (by rw [nI_ltI (by omega) (by omega)]; exact c1), if_pos (by rw [nI_ltI (by omega) (by omega)]; omega)]
          exact nx
theorem e_noteHours {lo hi : Nat} (h1 : 1 ≤ lo) (hlh : lo ≤ hi) (h8 : hi ≤ 8) (d : DD) : OW (f_X4_noteHours (nI lo) (nI hi) d) (fun _ d' => NI lo (tn lo hi) d d') := by
  unfold f_X4_noteHours
  rw [bd_e]
  have z : fo lo (min (hi + 1) 1) = 0 := by
    rw [Nat.min_eq_right (by omega)]; unfold fo fo; split <;> rfl
  refine nh7 h1 hlh h8 8 1 FU _ (by omega) (by unfold FU; omega) (by omega) ?_
  rw [z]
  exact ⟨fr_u1 (fr_refl _ _) (by decide), by rw [u1_at, if_pos ⟨rfl, rfl⟩]; rfl, fun t ht => absurd ht (Nat.not_lt_zero t)⟩
-- alike, alone
def al (lo lk : Nat) (P : Nat → Bool) (t o : Nat) : Bool := P o && decide ((Hs lo o ^^^ Hs lo t) &&& lk = 0)
def ao (N lo lk : Nat) (P : Nat → Bool) (t : Nat) : Bool := decide (cnt N (al lo lk P t) = 1)
theorem cnt_up {m n : Nat} {P : Nat → Bool} (h : m ≤ n) : cnt m P ≤ cnt n P := by
  obtain ⟨k, rfl⟩ : ∃ k, n = m + k := ⟨n - m, by omega⟩
  rw [cnt_add]
  omega
theorem un_0 {a b lk : Nat} (h : lk < 2 ^ 30) : ((nI a ^^^ nI b) &&& nI lk = (0 : Int32)) ↔ (a ^^^ b) &&& lk = 0 := by
  have l : (a ^^^ b) &&& lk ≤ lk := Nat.and_le_right
  rw [nx_xor, nx_and, show (0 : Int32) = nI 0 from rfl, nI_eq (by omega) (by omega)]
theorem ia_69 (c : Nat) (hc : c < 1000) (d : DD) : f_X4_isAlone_69 (nI c) d = some (bI (decide (c = 1)), d) := by
  unfold f_X4_isAlone_69
  by_cases q : c = 1
  · rw [if_pos (by rw [q]; rfl), decide_eq_true q]; rfl
  · rw [if_neg (show ¬ nI c = 1 from fun z => q ((nI_eq (by omega) (by omega)).mp (show nI c = nI 1 from z))), decide_eq_false q]; rfl
theorem ia_l {d : DD} {lo N lk t : Nat} {P : Nat → Bool} (hN : N ≤ 36) (h4 : d.1 83 4 = nI N) (h85 : ∀ t, t < N → d.1 85 t = nI (Hs lo t)) (ht : t < N) (hlk : lk < 2 ^ 30) : ∀ (m o f : Nat), o + m = N → m < f → f_X4_isAlone_6 f (mkL P) (nI t) (nI lk) (nI (cnt o (al lo lk P t))) (nI o) d = some (bI (ao N lo lk P t), d) := by
  intro m
  induction m with
  | zero =>
    intro o f ho hf
    cases f with
    | zero => omega
    | succ f =>
      show f_X4_isAlone_6B (f_X4_isAlone_6 f) _ _ _ _ _ _ = _
      unfold f_X4_isAlone_6B
      have e : o = N := by omega
      subst e
      have := cnt_le o (al lo lk P t)
      rw [h4, if_neg (by rw [nI_ltI (by omega) (by omega)]; omega), ia_69 _ (by omega)]
      rfl
  | succ m ih =>
    intro o f ho hf
    cases f with
    | zero => omega
    | succ f =>
      have s := ih (o + 1) f (by omega) (by omega)
      have ce : cnt (o + 1) (al lo lk P t) = cnt o (al lo lk P t) + (if al lo lk P t o then 1 else 0) := rfl
      have cl := cnt_le o (al lo lk P t)
      rw [ce] at s
      show f_X4_isAlone_6B (f_X4_isAlone_6 f) _ _ _ _ _ _ = _
      unfold f_X4_isAlone_6B
      rw [h4, if_pos (by rw [nI_ltI (by omega) (by omega)]; omega)]
      by_cases c2 : cnt o (al lo lk P t) < 2
      · have r1 : rd1 d 85 (nI o) = nI (Hs lo o) := by rw [rd1_in (by rw [ln_85]; omega)]; exact h85 o (by omega)
        have r2 : rd1 d 85 (nI t) = nI (Hs lo t) := by rw [rd1_in (by rw [ln_85]; omega)]; exact h85 t ht
        rw [if_pos (show nI (cnt o (al lo lk P t)) < (2 : Int32) from (nI_ltI (b := 2) (by omega) (by omega)).mpr c2), e_X9_at, ob_e]
        dsimp only
        rw [e_X9_at, ob_e, r1, r2, bd_e]
        dsimp only
        have hb : ((lushr (mkL P) (nI o)) &&& (1 : Int64) = (1 : Int64)) ↔ P o = true := by
          rw [← bl_mk (P := P) (show o < 64 by omega)]
          exact lx_uhas (by omega)
        rw [nI_1, nI_1]
        by_cases c3 : P o = true
        · rw [if_pos (hb.mpr c3)]
          by_cases c4 : (Hs lo o ^^^ Hs lo t) &&& lk = 0
          · have ea : al lo lk P t o = true := by unfold al; rw [c3, decide_eq_true c4]; rfl
            rw [ea, if_pos rfl] at s
            rw [if_pos ((un_0 hlk).mpr c4)]
            exact s
          · have ea : al lo lk P t o = false := by unfold al; rw [decide_eq_false c4, Bool.and_false]
            rw [ea, if_neg (by decide), Nat.add_zero] at s
            rw [if_neg (fun z => c4 ((un_0 hlk).mp z))]
            exact s
        · have ea : al lo lk P t o = false := by unfold al; rw [Bool.not_eq_true] at c3; rw [c3, Bool.false_and]
          rw [ea, if_neg (by decide), Nat.add_zero] at s
          rw [if_neg (fun z => c3 (hb.mp z))]
          exact s
      · have up := cnt_up (P := al lo lk P t) (show o ≤ N by omega)
        rw [if_neg (show ¬ nI (cnt o (al lo lk P t)) < (2 : Int32) from fun z => c2 ((nI_ltI (b := 2) (by omega) (by omega)).mp z)), ia_69 _ (by omega), decide_eq_false (by omega)]
        unfold ao
        rw [decide_eq_false (by omega)]
theorem e_isAlone {d : DD} {lo N lk t : Nat} (P : Nat → Bool) (hN : N ≤ 36) (h4 : d.1 83 4 = nI N) (h85 : ∀ t, t < N → d.1 85 t = nI (Hs lo t)) (ht : t < N) (hlk : lk < 2 ^ 30) : f_X4_isAlone (mkL P) (nI t) (nI lk) d = some (bI (ao N lo lk P t), d) := ia_l hN h4 h85 ht hlk N 0 FU (by omega) (by unfold FU; omega)
theorem ma_l {h : Nat → Nat} {d : DD} (V : VH h) (M : HM d h) {k a t : Nat} {P : Nat → Bool} (hk : k < h 0) (ha : a < h 1) (ht : t < tn (h (2 + k)) (h (5 + k))) : ∀ (m o f : Nat), o + m = tn (h (2 + k)) (h (5 + k)) → m < f → f_X10_alike_6 f (nI k) (nI a) (mkL P) (nI t) (nI (cnt o (al (h (2 + k)) (h (15 + a)) P t))) (nI o) d = some (nI (cnt (tn (h (2 + k)) (h (5 + k))) (al (h (2 + k)) (h (15 + a)) P t)), d) := by
  have v0 := V.1
  have v1 := V.2.1
  have v := V.2.2.1 k hk
  have hlk := V.2.2.2.2.1 a ha
  have tle := tn_le (lo := h (2 + k)) v.2.2.1
  have m95 := M.2.1 k hk
  have m94 : ∀ t, k < h 0 → t < tn (h (2 + k)) (h (5 + k)) → d.1 94 (36 * k + t) = nI (Hs (h (2 + k)) t) := fun t => M.2.2 k t
  have m88 := M.1 (15 + a)
  intro m
  induction m with
  | zero =>
    intro o f ho hf
    cases f with
    | zero => omega
    | succ f =>
      show f_X10_alike_6B (f_X10_alike_6 f) _ _ _ _ _ _ _ = _
      unfold f_X10_alike_6B
      rw [if_pos ((ix_nI (by omega)).mpr (by rw [ln_95]; omega)), nI_clamp (by omega), m95, if_neg (by rw [nI_ltI (by omega) (by omega)]; omega), show o = tn (h (2 + k)) (h (5 + k)) by omega]
  | succ m ih =>
    intro o f ho hf
    cases f with
    | zero => omega
    | succ f =>
      have s := ih (o + 1) f (by omega) (by omega)
      have ce : cnt (o + 1) (al (h (2 + k)) (h (15 + a)) P t) = cnt o (al (h (2 + k)) (h (15 + a)) P t) + (if al (h (2 + k)) (h (15 + a)) P t o then 1 else 0) := rfl
      rw [ce] at s
      show f_X10_alike_6B (f_X10_alike_6 f) _ _ _ _ _ _ _ = _
      unfold f_X10_alike_6B
      have hb : ((mkL P >>> ((nI o).toInt64 &&& 63)) &&& (1 : Int64) = (1 : Int64)) ↔ P o = true := by
        rw [← bl_mk (P := P) (show o < 64 by omega)]
        exact lx_has (by omega)
      have i1 : (36 : Int32) * nI k + nI o = nI (36 * k + o) := by rw [show (36 : Int32) = nI 36 from rfl, pk_mul, nI_add]
      have i2 : (36 : Int32) * nI k + nI t = nI (36 * k + t) := by rw [show (36 : Int32) = nI 36 from rfl, pk_mul, nI_add]
      have i3 : (15 : Int32) + nI a = nI (15 + a) := by rw [show (15 : Int32) = nI 15 from rfl, nI_add]
      rw [if_pos ((ix_nI (by omega)).mpr (by rw [ln_95]; omega)), nI_clamp (show k < 2 ^ 31 by omega), m95, if_pos (by rw [nI_ltI (by omega) (by omega)]; omega)]
      by_cases c3 : P o = true
      · rw [if_pos (hb.mpr c3), i1, i2, i3, if_pos ((ix_nI (by omega)).mpr (by rw [ln_94]; omega)), if_pos ((ix_nI (by omega)).mpr (by rw [ln_94]; omega)), if_pos ((ix_nI (by omega)).mpr (by rw [ln_88]; omega)), nI_clamp (by omega), nI_clamp (by omega), nI_clamp (by omega), m94 o hk (by omega), m94 t hk ht, m88]
        by_cases c4 : (Hs (h (2 + k)) o ^^^ Hs (h (2 + k)) t) &&& h (15 + a) = 0
        · have ea : al (h (2 + k)) (h (15 + a)) P t o = true := by unfold al; rw [c3, decide_eq_true c4]; rfl
          rw [ea, if_pos rfl] at s
          rw [if_pos (show (nI (Hs (h (2 + k)) o) ^^^ nI (Hs (h (2 + k)) t)) &&& nI (h (15 + a)) = 0 from (un_0 hlk).mpr c4), bd_e, nI_1, nI_1]
          exact s
        · have ea : al (h (2 + k)) (h (15 + a)) P t o = false := by unfold al; rw [decide_eq_false c4, Bool.and_false]
          rw [ea, if_neg (by decide), Nat.add_zero] at s
          rw [if_neg (show ¬ (nI (Hs (h (2 + k)) o) ^^^ nI (Hs (h (2 + k)) t)) &&& nI (h (15 + a)) = 0 from fun z => c4 ((un_0 hlk).mp z)), bd_e, nI_1, show (0 : Int32) = nI 0 from rfl, nI_add, Nat.add_zero]
          exact s
      · have ea : al (h (2 + k)) (h (15 + a)) P t o = false := by unfold al; rw [Bool.not_eq_true] at c3; rw [c3, Bool.false_and]
        rw [ea, if_neg (by decide), Nat.add_zero] at s
        rw [if_neg (fun z => c3 (hb.mp z)), bd_e, nI_1, show (0 : Int32) = nI 0 from rfl, nI_add, Nat.add_zero]
        exact s
theorem e_alike {h : Nat → Nat} {d : DD} (V : VH h) (M : HM d h) {k a t : Nat} (P : Nat → Bool) (hk : k < h 0) (ha : a < h 1) (ht : t < tn (h (2 + k)) (h (5 + k))) : f_X10_alike (nI k) (nI a) (mkL P) (nI t) d = some (nI (cnt (tn (h (2 + k)) (h (5 + k))) (al (h (2 + k)) (h (15 + a)) P t)), d) := ma_l V M hk ha ht (tn (h (2 + k)) (h (5 + k))) 0 FU (by omega) (by
    have v := V.2.2.1 k hk
    have tle := tn_le (lo := h (2 + k)) v.2.2.1
    unfold FU
    omega)
theorem ao_1 {N lo lk t : Nat} {P : Nat → Bool} (hN : N ≤ 36) : (nI (cnt N (al lo lk P t)) = (1 : Int32)) ↔ ao N lo lk P t = true := by
  have := cnt_le N (al lo lk P t)
  unfold ao
  rw [show (1 : Int32) = nI 1 from rfl, nI_eq (by omega) (by omega), decide_eq_true_iff]
