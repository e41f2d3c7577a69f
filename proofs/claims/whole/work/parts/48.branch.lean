-- PURE ROWS: the class's findChoices, branches
theorem cd_put {d : DD} {L : List (Nat × (Nat → Nat → Bool))} (C : CD d L) {i s : Nat} {b : Nat × (Nat → Nat → Bool)} (hi : L[i]? = some b) : CD (u1 d 74 i (nI s)) (L.set i (s, b.2)) := by
  refine ⟨?_, fun j b' e => ?_⟩
  · rw [u1_at, if_neg (by omega), List.length_set]
    exact C.1
  · rw [List.getElem?_set] at e
    by_cases c : i = j
    · subst c
      rw [if_pos rfl] at e
      by_cases c2 : i < L.length
      · rw [if_pos c2] at e
        injection e with e
        subst e
        refine ⟨by rw [u1_at, if_pos ⟨rfl, rfl⟩], (C.2 i b hi).2⟩
      · rw [if_neg c2] at e
        cases e
    · rw [if_neg c] at e
      have := C.2 j b' e
      refine ⟨?_, this.2⟩
      rw [u1_at, if_neg (by omega)]
      exact this.1
theorem fcs7 {h nm} {n : Nat} {d0 : DD} (V : VH h) (H : HC 2 d0 h nm) (G : FD h n d0) {a : Nat} (ha : a < h 1) : ∀ (m w f : Nat) (d : DD) (L : List (Nat × (Nat → Nat → Bool))), w + m = 8 → m < f → FR [72, 74, 75] d0 d → F7 d0 d → CD d L → CI h n a w L → OW (f_X8_findChoices_7 f (nI a) (nI w) d) (fun _ d' => FR [72, 74, 75] d0 d' ∧ F7 d0 d' ∧ ∃ L, CD d' L ∧ CI h n a 8 L) := by
  have v0 := V.1
  have v1 := V.2.1
  have hb := hb_lt V ha
  intro m
  induction m with
  | zero =>
    intro w f d L hi hf F F' C I
    cases f with
    | zero => omega
    | succ f =>
      show OW (f_X8_findChoices_7B (f_X8_findChoices_7 f) _ _ _) _
      unfold f_X8_findChoices_7B
      have e : w = 8 := by omega
      subst e
      rw [if_neg (by decide)]
      exact ow_ret ⟨F, F', L, C, I⟩
  | succ m ih =>
    intro w f d L hi hf F F' C I
    cases f with
    | zero => omega
    | succ f =>
      show OW (f_X8_findChoices_7B (f_X8_findChoices_7 f) _ _ _) _
      unfold f_X8_findChoices_7B
      have e8 := hc_wa hb_2 V (hc_fr H F (by decide)) ha
      rw [rf_2_7] at e8
      have hl := I.1
      rw [if_pos (by rw [nI_lit, nI_ltI (by omega) (by omega)]; omega), e_X9_at, ob_e, e8]
      simp only [nI_lit]
      by_cases c : wb h a w = true
      · rw [if_pos ((q_uhas (by omega) (by omega)).mpr c)]
        refine ow_call (e_findChoice (by omega) C (fun a' m' k' x y z => by rw [(F 73 (by decide)).2]; exact G a' m' k' x y z) (by omega) (by omega)) ?_
        intro r d' Hr
        obtain ⟨Fr, F7', Hr⟩ := Hr
        rcases Hr with ⟨i, b, ei, hs, rfl, C'⟩ | ⟨hn, rfl, C'⟩
        · have hi' : i < L.length := by
            rcases Nat.lt_or_ge i L.length with z | z
            · exact z
            · rw [List.getElem?_eq_none z] at ei; cases ei
          rw [e_X9_at, ob_e, rd1_in (by rw [ln_74]; omega), (C'.2 i b ei).1]
          dsimp only
          rw [q_shl (by omega), nx_or, e_X9_put, ob_e, wr1_in (by rw [ln_74]; omega), nI_add]
          refine ih (w + 1) f _ _ (by omega) (by omega) (fr_u1 (fr_trans F Fr) (by decide)) ?_ (cd_put C' ei) (ci_old I (by omega) c ei hs)
          intro j hj
          rw [u1_at, if_neg (by omega), F7' j hj, F' j hj]
        · have ei : (L ++ [(0, fun k => FI h n a (mo w k) k)])[L.length]? = some (0, fun k => FI h n a (mo w k) k) := by
            rw [List.getElem?_append_right (Nat.le_refl _), Nat.sub_self]
            rfl
          rw [e_X9_at, ob_e, rd1_in (by rw [ln_74]; omega), (C'.2 _ _ ei).1]
          dsimp only
          rw [q_shl (by omega), nx_or, Nat.zero_or, e_X9_put, ob_e, wr1_in (by rw [ln_74]; omega), nI_add]
          have cp := cd_put (s := 2 ^ w) C' ei
          have es : (L ++ [(0, fun k => FI h n a (mo w k) k)]).set L.length (2 ^ w, fun k => FI h n a (mo w k) k) = L ++ [(2 ^ w, fun k => FI h n a (mo w k) k)] := by
            rw [List.set_append_right _ _ (Nat.le_refl _), Nat.sub_self]
            rfl
          rw [es] at cp
          refine ih (w + 1) f _ _ (by omega) (by omega) (fr_u1 (fr_trans F Fr) (by decide)) ?_ cp (ci_new I (by omega) c hn)
          intro j hj
          rw [u1_at, if_neg (by omega), F7' j hj, F' j hj]
      · have c' : wb h a w = false := by simpa using c
        rw [if_neg (fun z => c ((q_uhas (by omega) (by omega)).mp z)), nI_add]
        exact ih (w + 1) f d L (by omega) (by omega) F F' C (ci_none I c')
theorem e_findChoices {h nm} {n : Nat} {d : DD} (V : VH h) (H : HC 2 d h nm) (G : FD h n d) {a : Nat} (ha : a < h 1) : OW (f_X8_findChoices (nI a) d) (fun _ d' => FR [72, 74, 75] d d' ∧ F7 d d' ∧ ∃ L, CD d' L ∧ CI h n a 8 L) := by
  unfold f_X8_findChoices
  rw [bd_e]
  have Fu : FR [72, 74, 75] d (u1 d 72 2 0) := fr_u1 (fr_refl _ _) (by decide)
  refine ow_mono (fcs7 V (hc_fr H Fu (by decide)) (fun a' m' k' x y z => by rw [(Fu 73 (by decide)).2]; exact G a' m' k' x y z) ha 8 0 FU _ [] (by omega) (by unfold FU; omega) (fr_refl _ _) (fun _ _ => rfl) ⟨by rw [u1_at, if_pos ⟨rfl, rfl⟩]; rfl, fun i b e => by cases e⟩ ⟨Nat.le_refl _, fun _ => rfl, fun b hb => (by cases hb), List.Pairwise.nil⟩) ?_
  intro _ d' H'
  refine ⟨fr_trans Fu H'.1, fun j hj => ?_, H'.2.2⟩
  rw [H'.2.1 j hj, u1_at, if_neg (fun z => hj z.2)]
-- packed ways
def pW (S : Nat → Nat) : Nat → Nat
  | 0 => 0
  | A + 1 => pW S A ||| S A * 2 ^ (8 * A)
theorem pW_lt {S : Nat → Nat} (hS : ∀ a, S a < 2 ^ 8) : ∀ A, pW S A < 2 ^ (8 * A)
  | 0 => Nat.one_pos
  | A + 1 => by
    unfold pW
    have h1 := pW_lt hS A
    have h2 := hS A
    have e : 2 ^ (8 * (A + 1)) = 2 ^ 8 * 2 ^ (8 * A) := by rw [Nat.mul_succ, Nat.add_comm, Nat.pow_add]
    apply Nat.or_lt_two_pow
    · refine Nat.lt_of_lt_of_le h1 (Nat.pow_le_pow_right (by decide) (by omega))
    · rw [e]
      exact (Nat.mul_lt_mul_right (Nat.two_pow_pos _)).mpr h2
theorem pW_tb {S : Nat → Nat} (hS : ∀ a, S a < 2 ^ 8) : ∀ (A a i : Nat), a < A → i < 8 → (pW S A).testBit (8 * a + i) = (S a).testBit i
  | 0, a, _, ha, _ => absurd ha (Nat.not_lt_zero a)
  | A + 1, a, i, ha, hi => by
    unfold pW
    rw [Nat.testBit_or]
    rcases Nat.lt_or_ge a A with z | z
    · rw [pW_tb hS A a i z hi, Nat.testBit_mul_two_pow, decide_eq_false (by omega)]
      simp
    · have e : a = A := by omega
      subst e
      have h1 := pW_lt hS a
      rw [Nat.testBit_lt_two_pow (Nat.lt_of_lt_of_le h1 (Nat.pow_le_pow_right (by decide) (by omega))), Nat.testBit_mul_two_pow, decide_eq_true (by omega), Bool.false_or, Bool.true_and, Nat.add_sub_cancel_left]
theorem pW_get {S : Nat → Nat} (hS : ∀ a, S a < 2 ^ 8) {A a : Nat} (ha : a < A) : (pW S A / 2 ^ (8 * a)) &&& 255 = S a := by
  apply Nat.eq_of_testBit_eq
  intro i
  rw [Nat.testBit_and, Nat.testBit_div_two_pow, show (255 : Nat) = 2 ^ 8 - 1 from rfl, Nat.testBit_two_pow_sub_one]
  rcases Nat.lt_or_ge i 8 with z | z
  · rw [Nat.add_comm, pW_tb hS A a i ha z, decide_eq_true z, Bool.and_true]
  · rw [decide_eq_false (by omega), Bool.and_false]
    symm
    exact Nat.testBit_lt_two_pow (Nat.lt_of_lt_of_le (hS a) (Nat.pow_le_pow_right (by decide) z))
theorem pW_congr {S T : Nat → Nat} : ∀ {A : Nat}, (∀ a, a < A → S a = T a) → pW S A = pW T A
  | 0, _ => rfl
  | A + 1, h => by
    unfold pW
    rw [pW_congr (A := A) (fun a ha => h a (by omega)), h A (by omega)]
