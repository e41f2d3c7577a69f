-- PURE ROWS: the model goes to the next token
def SK (m m' : DD) : Prop := (∀ a, a ≠ 86 → m'.1 a = m.1 a ∧ m'.2 a = m.2 a) ∧ ∀ j, j ∉ [4, 12, 13, 14, 15] → m'.1 86 j = m.1 86 j
theorem sk_refl (m : DD) : SK m m := ⟨fun _ _ => ⟨rfl, rfl⟩, fun _ _ => rfl⟩
theorem sk_trans {m m' m'' : DD} (h : SK m m') (g : SK m' m'') : SK m m'' := ⟨fun a ha => ⟨(g.1 a ha).1.trans (h.1 a ha).1, (g.1 a ha).2.trans (h.1 a ha).2⟩, fun j hj => (g.2 j hj).trans (h.2 j hj)⟩
theorem sk_u1 {m m' : DD} {j : Nat} {x : Int32} (h : SK m m') (hj : j ∈ [4, 12, 13, 14, 15]) : SK m (u1 m' 86 j x) := by
  refine ⟨fun a ha => ⟨?_, (h.1 a ha).2⟩, fun i hi => ?_⟩
  · rw [← (h.1 a ha).1]
    funext i
    rw [u1_at, if_neg (fun z => ha z.1)]
  · rw [u1_at, if_neg (fun z => hi (by rw [z.2]; exact hj))]
    exact h.2 i hi
theorem sk_u2 {m m' : DD} {x : Int64} (h : SK m m') : SK m (u2 m' 86 18 x) := by
  refine ⟨fun a ha => ⟨(h.1 a ha).1, ?_⟩, fun i hi => h.2 i hi⟩
  rw [← (h.1 a ha).2]
  funext i
  rw [u2_at, if_neg (fun z => ha z.1)]
def BM (G : TX) (m : DD) : Prop := m.1 86 3 = nI G.2.1 ∧ m.1 86 5 = nI G.2.2 ∧ ∀ i, i < G.2.1 → m.1 87 i &&& 255 = nI (G.1 i)
theorem bm_sk {G : TX} {m m' : DD} (B : BM G m) (S : SK m m') : BM G m' := by
  refine ⟨?_, ?_, fun i hi => ?_⟩
  · rw [S.2 3 (by decide)]; exact B.1
  · rw [S.2 5 (by decide)]; exact B.2.1
  · rw [(S.1 87 (by decide)).1]; exact B.2.2 i hi
theorem e_peek {G : TX} {m : DD} {p : Nat} (X : VX G) (B : BM G m) (h4 : m.1 86 4 = nI p) (hp : p ≤ G.2.1) : f_X10_peek m = some ((if p < G.2.1 then nI (G.1 p) else mI), m) := by
  have hn := X.2.1
  unfold f_X10_peek
  rw [h4, B.1]
  by_cases c : p < G.2.1
  · rw [if_pos ((nI_ltI (by omega) (by omega)).mpr c), if_pos ((ix_nI (by omega)).mpr (by rw [ln_87]; omega)), nI_clamp (by omega), B.2.2 p c, if_pos c]
  · rw [if_neg (fun z => c ((nI_ltI (by omega) (by omega)).mp z)), if_neg c]
    rfl
theorem e_small_m (d : DD) : f_X10_isSmall mI d = some (0, d) := by
  unfold f_X10_isSmall
  rw [if_pos (by decide)]
theorem e_mdigit_m (d : DD) : f_X10_isDigit mI d = some (0, d) := by
  unfold f_X10_isDigit
  rw [if_pos (by decide)]
def mc (s : Nat) : Nat := if s = 0 then 0 else if s = 1 then 4 else if s = 2 then 3 else if s = 3 then 2 else 1
def RN (G : TX) (q i : Nat) (m : DD) : Prop := m.1 86 4 = nI (q + i) ∧ m.1 86 14 = nI i ∧ m.1 86 15 = N32 G.1 q (min i 2) ∧ m.2 86 18 = W64 G.1 q (min i 6) ∧ m.1 86 13 = nI q
theorem s251 {q i : Nat} {m : DD} (k157 : Int32 → Int32 → DD → Option (Unit × DD)) (v2 t0 : Int32) (h4 : m.1 86 4 = nI (q + i)) (h14 : m.1 86 14 = nI i) : f_X10_skip_251 k157 v2 t0 m = k157 v2 t0 (u1 (u1 m 86 14 (nI (i + 1))) 86 4 (nI (q + (i + 1)))) := by
  unfold f_X10_skip_251
  rw [h14, nI_1, bd_e, show (u1 m 86 14 (nI (i + 1))).1 86 4 = nI (q + i) from by rw [u1_at, if_neg (by omega)]; exact h4, nI_1, bd_e]
  rfl
theorem s197 {G : TX} {q i : Nat} {m : DD} (X : VX G) (B : BM G m) (hi : q + i < G.2.1) (R : RN G q i m) (k157 : Int32 → Int32 → DD → Option (Unit × DD)) (v2 t0 : Int32) : ∃ m', f_X10_skip_197 k157 v2 t0 m = k157 v2 t0 m' ∧ SK m m' ∧ RN G q (i + 1) m' := by
  have hn := X.2.1
  obtain ⟨h4, h14, h15, h18, h13⟩ := R
  have pk := e_peek X B h4 (by omega)
  rw [if_pos hi] at pk
  have we : W64 G.1 q (i + 1) = (W64 G.1 q i <<< ((8 : Int32).toInt64 &&& 63)) ||| (nI (G.1 (q + i))).toInt64 := rfl
  have ne : N32 G.1 q (i + 1) = (((10 : Int32) * N32 G.1 q i) + nI (G.1 (q + i))) - (48 : Int32) := rfl
  have big : ∀ (m1 : DD), SK m m1 → m1.1 86 4 = nI (q + i) → m1.1 86 14 = nI i → m1.1 86 15 = N32 G.1 q (min (i + 1) 2) → m1.2 86 18 = W64 G.1 q (min (i + 1) 6) → m1.1 86 13 = nI q → ∃ m', f_X10_skip_251 k157 v2 t0 m1 = k157 v2 t0 m' ∧ SK m m' ∧ RN G q (i + 1) m' := by
    intro m1 S a4 a14 a15 a18 a13
    refine ⟨_, s251 k157 v2 t0 a4 a14, sk_u1 (sk_u1 S (by decide)) (by decide), ?_, ?_, ?_, ?_, ?_⟩
    · rw [u1_at, if_pos ⟨rfl, rfl⟩]
    · rw [u1_at, if_neg (by omega), u1_at, if_pos ⟨rfl, rfl⟩]
    · rw [u1_at, if_neg (by omega), u1_at, if_neg (by omega)]; exact a15
    · exact a18
    · rw [u1_at, if_neg (by omega), u1_at, if_neg (by omega)]; exact a13
  have mid : ∀ (m1 : DD), SK m m1 → m1.1 86 4 = nI (q + i) → m1.1 86 14 = nI i → m1.1 86 15 = N32 G.1 q (min i 2) → m1.2 86 18 = W64 G.1 q (min (i + 1) 6) → m1.1 86 13 = nI q → ∃ m', f_X10_skip_224 k157 v2 t0 m1 = k157 v2 t0 m' ∧ SK m m' ∧ RN G q (i + 1) m' := by
    intro m1 S a4 a14 a15 a18 a13
    have pk1 := e_peek X (bm_sk B S) a4 (by omega)
    rw [if_pos hi] at pk1
    unfold f_X10_skip_224
    rw [a14]
    by_cases c : i < 2
    · rw [if_pos (show nI i < (2 : Int32) from (nI_ltI (b := 2) (by omega) (by omega)).mpr c), pk1, ob_e, a15, Nat.min_eq_left (show i ≤ 2 by omega), bd_e]
      dsimp only
      rw [← ne]
      refine big _ (sk_u1 S (by decide)) ?_ ?_ ?_ a18 ?_
      · rw [u1_at, if_neg (by omega)]; exact a4
      · rw [u1_at, if_neg (by omega)]; exact a14
      · rw [u1_at, if_pos ⟨rfl, rfl⟩, Nat.min_eq_left (by omega)]
      · rw [u1_at, if_neg (by omega)]; exact a13
    · rw [if_neg (show ¬ nI i < (2 : Int32) from fun z => c ((nI_ltI (b := 2) (by omega) (by omega)).mp z))]
      refine big _ S a4 a14 ?_ a18 a13
      rw [a15, Nat.min_eq_right (by omega), Nat.min_eq_right (by omega)]
  unfold f_X10_skip_197
  rw [h14]
  by_cases c : i < 6
  · rw [if_pos (show nI i < (6 : Int32) from (nI_ltI (b := 6) (by omega) (by omega)).mpr c), pk, ob_e, h18, Nat.min_eq_left (show i ≤ 6 by omega), bd_e]
    dsimp only
    rw [← we]
    refine mid _ (sk_u2 (sk_refl m)) h4 h14 h15 ?_ h13
    rw [u2_at, if_pos ⟨rfl, rfl⟩, Nat.min_eq_left (by omega)]
  · rw [if_neg (show ¬ nI i < (6 : Int32) from fun z => c ((nI_ltI (b := 6) (by omega) (by omega)).mp z))]
    refine mid _ (sk_refl m) h4 h14 h15 ?_ h13
    rw [h18, Nat.min_eq_right (by omega), Nat.min_eq_right (by omega)]
def alf (g : Nat → Nat) (q i : Nat) : Bool := if lb (g q) = true then decide (DG g q i = 0) else decide (DG g q i = i)
theorem alf_s {g : Nat → Nat} {q i : Nat} (h : anb (g (q + i)) = true) : alf g q (i + 1) = (alf g q i && (lb (g (q + i)) == lb (g q))) := by
  have de : DG g q (i + 1) = if db (g (q + i)) = true then DG g q i + 1 else DG g q i := rfl
  have dl := dg_le g q i
  have ex : lb (g (q + i)) = !(db (g (q + i))) := by
    cases c1 : lb (g (q + i)) <;> cases c2 : db (g (q + i))
    · unfold anb at h; rw [c1, c2] at h; exact absurd h (by decide)
    · rfl
    · rfl
    · have a := lb_iff.mp c1
      have b := db_iff.mp c2
      omega
  unfold alf
  rw [de, ex]
  cases c1 : lb (g q) <;> cases c2 : db (g (q + i)) <;> simp <;> omega
theorem s157 {G : TX} {q : Nat} {m0 : DD} (X : VX G) (hq : q < G.2.1) (ha : anb (G.1 q) = true) : ∀ (k i f : Nat) (m : DD), q + i + k = G.2.1 → k < f → rnN G.1 k (q + i) = tE G q → SK m0 m → BM G m → RN G q i m → OW (f_X10_skip_157 f (bI (lb (G.1 q))) (bI (alf G.1 q i)) m) (fun _ m' => SK m0 m' ∧ m'.1 86 12 = nI (mc (rS G.1 q (tE G q - q))) ∧ RN G q (tE G q - q) m') := by
  have hn := X.2.1
  have en : ∀ (i : Nat) (m : DD), q + i = tE G q → SK m0 m → RN G q i m → OW (if bI (alf G.1 q i) = 0 then bd (u1 m 86 12 (4 : Int32)) fun d23 => some ((), d23) else if bI (lb (G.1 q)) = 0 then (if (2 : Int32) < (m.1 86 14) then bd (u1 m 86 12 (4 : Int32)) fun d26 => some ((), d26) else if bI (lb (G.1 q)) = 0 then bd (u1 m 86 12 (2 : Int32)) fun d24 => some ((), d24) else bd (u1 m 86 12 (1 : Int32)) fun d25 => some ((), d25)) else (if (6 : Int32) < (m.1 86 14) then bd (u1 m 86 12 (4 : Int32)) fun d29 => some ((), d29) else if bI (lb (G.1 q)) = 0 then bd (u1 m 86 12 (2 : Int32)) fun d27 => some ((), d27) else bd (u1 m 86 12 (1 : Int32)) fun d28 => some ((), d28))) (fun _ m' => SK m0 m' ∧ m'.1 86 12 = nI (mc (rS G.1 q (tE G q - q))) ∧ RN G q (tE G q - q) m') := by
    intro i m he S R
    have ge := tE_an hq ha
    have le := (tE_le (G := G) (q := q) (by omega)).2
    have ei : tE G q - q = i := by omega
    rw [ei]
    have fin : ∀ s : Nat, s = mc (rS G.1 q i) → SK m0 (u1 m 86 12 (nI s)) ∧ (u1 m 86 12 (nI s)).1 86 12 = nI (mc (rS G.1 q i)) ∧ RN G q i (u1 m 86 12 (nI s)) := by
      intro s hs
      obtain ⟨h4, h14, h15, h18, h13⟩ := R
      refine ⟨sk_u1 S (by decide), by rw [u1_at, if_pos ⟨rfl, rfl⟩, hs], ?_, ?_, ?_, h18, ?_⟩
      · rw [u1_at, if_neg (by omega)]; exact h4
      · rw [u1_at, if_neg (by omega)]; exact h14
      · rw [u1_at, if_neg (by omega)]; exact h15
      · rw [u1_at, if_neg (by omega)]; exact h13
    obtain ⟨i', rfl⟩ : ∃ i', i = i' + 1 := ⟨i - 1, by omega⟩
    have dl := dg_le G.1 q (i' + 1)
    have h14 := R.2.1
    rw [h14]
    have sc := srt_cs (W64 G.1 q (i' + 1))
    cases cl : lb (G.1 q)
    · have cd : db (G.1 q) = true := by
        unfold anb at ha
        rw [cl] at ha
        exact ha
      have d1 := dg_d G.1 q cd i'
      have af : alf G.1 q (i' + 1) = decide (DG G.1 q (i' + 1) = i' + 1) := by unfold alf; rw [cl]; rfl
      have rs : rS G.1 q (i' + 1) = if DG G.1 q (i' + 1) = i' + 1 ∧ 1 ≤ i' + 1 ∧ i' + 1 ≤ 2 then 3 else 1 := by unfold rS; rw [if_neg (by omega)]
      rw [af]
      by_cases c1 : DG G.1 q (i' + 1) = i' + 1
      · rw [decide_eq_true c1, if_neg (show ¬ bI true = 0 by decide), if_pos (show bI false = 0 from rfl)]
        by_cases c2 : 2 < i' + 1
        · rw [if_neg (by omega)] at rs
          rw [if_pos (show (2 : Int32) < nI (i' + 1) from (nI_ltI (a := 2) (by omega) (by omega)).mpr c2), bd_e]
          exact ow_ret (fin 4 (by rw [rs]; rfl))
        · rw [if_pos (by omega)] at rs
          rw [if_neg (show ¬ (2 : Int32) < nI (i' + 1) from fun z => c2 ((nI_ltI (a := 2) (by omega) (by omega)).mp z)), bd_e]
          exact ow_ret (fin 2 (by rw [rs]; rfl))
      · rw [if_neg (by omega)] at rs
        rw [decide_eq_false c1, if_pos (show bI false = 0 from rfl), bd_e]
        exact ow_ret (fin 4 (by rw [rs]; rfl))
    · have cd : db (G.1 q) = false := by
        cases c2 : db (G.1 q)
        · rfl
        · have a := lb_iff.mp cl
          have b := db_iff.mp c2
          omega
      have d1 := dg_l G.1 q cd i'
      have af : alf G.1 q (i' + 1) = decide (DG G.1 q (i' + 1) = 0) := by unfold alf; rw [cl]; rfl
      rw [af]
      by_cases c1 : DG G.1 q (i' + 1) = 0
      · rw [decide_eq_true c1, if_neg (show ¬ bI true = 0 by decide), if_neg (show ¬ bI true = 0 by decide)]
        by_cases c2 : 6 < i' + 1
        · have rs : rS G.1 q (i' + 1) = 1 := by unfold rS; rw [if_neg (by omega), if_neg (by omega)]
          rw [if_pos (show (6 : Int32) < nI (i' + 1) from (nI_ltI (a := 6) (by omega) (by omega)).mpr c2), bd_e]
          exact ow_ret (fin 4 (by rw [rs]; rfl))
        · have rs : rS G.1 q (i' + 1) = srt (W64 G.1 q (i' + 1)) := by unfold rS; rw [if_pos (by omega)]
          rw [if_neg (show ¬ (6 : Int32) < nI (i' + 1) from fun z => c2 ((nI_ltI (a := 6) (by omega) (by omega)).mp z)), bd_e]
          exact ow_ret (fin 1 (by unfold mc; rw [rs, if_neg (by omega), if_neg (by omega), if_neg (by omega), if_neg (by omega)]))
      · have rs : rS G.1 q (i' + 1) = 1 := by unfold rS; rw [if_neg (by omega), if_neg (by omega)]
        rw [decide_eq_false c1, if_pos (show bI false = 0 from rfl), bd_e]
        exact ow_ret (fin 4 (by rw [rs]; rfl))
  intro k
  induction k with
  | zero =>
    intro i f m hk hf hr S B R
    obtain ⟨f, rfl⟩ : ∃ f', f = f' + 1 := ⟨f - 1, by omega⟩
    have pk := e_peek X B R.1 (by omega)
    rw [if_neg (by omega)] at pk
    show OW (f_X10_skip_157B (f_X10_skip_157 f) _ _ _) _
    unfold f_X10_skip_157B
    rw [pk, ob_e]
    dsimp only
    rw [e_small_m, ob_e]
    dsimp only
    rw [if_pos (show (0 : Int32) = 0 from rfl), pk, ob_e]
    dsimp only
    rw [e_mdigit_m, ob_e]
    dsimp only
    rw [if_pos (show (0 : Int32) = 0 from rfl)]
    exact en i m hr S R
  | succ k ih =>
    intro i f m hk hf hr S B R
    obtain ⟨f, rfl⟩ : ∃ f', f = f' + 1 := ⟨f - 1, by omega⟩
    have pk := e_peek X B R.1 (by omega)
    rw [if_pos (show q + i < G.2.1 by omega)] at pk
    have gi := X.1 (q + i)
    have re : rnN G.1 (k + 1) (q + i) = if anb (G.1 (q + i)) = true then rnN G.1 k (q + i + 1) else q + i := rfl
    rw [re] at hr
    have go : anb (G.1 (q + i)) = true → OW (f_X10_skip_177 (f_X10_skip_157 f) (bI (lb (G.1 q))) (bI (alf G.1 q i)) m) (fun _ m' => SK m0 m' ∧ m'.1 86 12 = nI (mc (rS G.1 q (tE G q - q))) ∧ RN G q (tE G q - q) m') := by
      intro c
      rw [if_pos c] at hr
      have st : ∀ b : Bool, b = alf G.1 q (i + 1) → OW (f_X10_skip_197 (f_X10_skip_157 f) (bI (lb (G.1 q))) (bI b) m) (fun _ m' => SK m0 m' ∧ m'.1 86 12 = nI (mc (rS G.1 q (tE G q - q))) ∧ RN G q (tE G q - q) m') := by
        intro b hb
        obtain ⟨m', e, S', R'⟩ := s197 X B (by omega) R (f_X10_skip_157 f) (bI (lb (G.1 q))) (bI b)
        rw [e, hb]
        exact ih (i + 1) f m' (by omega) (by omega) hr (sk_trans S S') (bm_sk B S') R'
      have as := alf_s c
      unfold f_X10_skip_177 f_X10_skip_196
      cases ca : alf G.1 q i
      · rw [ca, Bool.false_and] at as
        rw [if_pos (show bI false = 0 from rfl)]
        exact st false as.symm
      · rw [ca, Bool.true_and] at as
        rw [if_neg (show ¬ bI true = 0 by decide), pk, ob_e]
        dsimp only
        rw [e_small gi, ob_e]
        dsimp only
        by_cases c2 : lb (G.1 (q + i)) = lb (G.1 q)
        · rw [if_pos (by rw [c2])]
          exact st true (by rw [as, c2]; cases lb (G.1 q) <;> rfl)
        · rw [if_neg (fun z => c2 ((bI_e _ _).mp z))]
          exact st false (by rw [as]; exact (beq_eq_false_iff_ne.mpr c2).symm)
    show OW (f_X10_skip_157B (f_X10_skip_157 f) _ _ _) _
    unfold f_X10_skip_157B
    rw [pk, ob_e]
    dsimp only
    rw [e_small gi, ob_e]
    dsimp only
    cases cl : lb (G.1 (q + i))
    · rw [if_pos (show bI false = 0 from rfl), pk, ob_e]
      dsimp only
      rw [e_mdigit gi, ob_e]
      dsimp only
      cases cd : db (G.1 (q + i))
      · rw [if_pos (show bI false = 0 from rfl)]
        rw [if_neg (by unfold anb; rw [cl, cd]; decide)] at hr
        exact en i m hr S R
      · rw [if_neg (show ¬ bI true = 0 by decide)]
        exact go (by unfold anb; rw [cl, cd]; rfl)
    · rw [if_neg (show ¬ bI true = 0 by decide)]
      exact go (by unfold anb; rw [cl]; rfl)
-- the model's token is that at q
def TFT (G : TX) (m : DD) (q : Nat) : Prop := m.1 86 12 = nI (mc (qS G q)) ∧ m.1 86 13 = nI (qP G q) ∧ (qS G q = 2 → m.1 86 15 = nI 59) ∧ (qS G q = 3 → m.1 86 15 = nI (qD G q)) ∧ (4 ≤ qS G q → m.2 86 18 = qV G q) ∧ (2 ≤ qS G q → m.1 86 4 = nI (qN G q))
theorem s140 {G : TX} {q : Nat} {m0 m : DD} (X : VX G) (hq : q < lim G) (ha : anb (G.1 q) = true) (S : SK m0 m) (B : BM G m) (h4 : m.1 86 4 = nI q) (h14 : m.1 86 14 = nI 0) (h13 : m.1 86 13 = nI q) : OW (f_X10_skip_140 (nI (G.1 q)) m) (fun _ m' => SK m0 m' ∧ TFT G m' q) := by
  have hn := X.2.1
  have hl : lim G = min G.2.1 G.2.2 := rfl
  have hqn : q < G.2.1 := by omega
  have ge := tE_an hqn ha
  have g59 : ¬ G.1 q = 59 := by
    intro z
    rw [z] at ha
    exact absurd ha (by decide)
  unfold f_X10_skip_140
  rw [e_small (X.1 q), ob_e]
  dsimp only
  rw [bd_e, bd_e]
  have S1 : SK m0 (u1 (u2 m 86 18 0) 86 15 0) := sk_u1 (sk_u2 S) (by decide)
  have R0 : RN G q 0 (u1 (u2 m 86 18 0) 86 15 0) := by
    refine ⟨?_, ?_, ?_, ?_, ?_⟩
    · rw [u1_at, if_neg (by omega)]; exact h4
    · rw [u1_at, if_neg (by omega)]; exact h14
    · rw [u1_at, if_pos ⟨rfl, rfl⟩]; rfl
    · rw [u1_2, u2_at, if_pos ⟨rfl, rfl⟩]; rfl
    · rw [u1_at, if_neg (by omega)]; exact h13
  have af : (1 : Int32) = bI (alf G.1 q 0) := by
    unfold alf
    have z : DG G.1 q 0 = 0 := rfl
    rw [z]
    cases lb (G.1 q) <;> rfl
  rw [af]
  refine ow_mono (s157 (m0 := m0) X hqn ha (G.2.1 - q) 0 FU _ (by omega) (by unfold FU; omega) rfl S1 (bm_sk B (sk_u1 (sk_u2 (sk_refl m)) (by decide))) R0) ?_
  rintro _ m' ⟨S', h12, R⟩
  obtain ⟨a4, a14, a15, a18, a13⟩ := R
  have es : qS G q = rS G.1 q (tE G q - q) := by unfold qS; rw [if_pos hq, if_neg g59]
  have ev : qV G q = rV G.1 q (tE G q - q) := by unfold qV; rw [if_pos hq, if_neg g59]
  refine ⟨S', by rw [es]; exact h12, ?_, fun z => ?_, fun z => ?_, fun z => ?_, fun z => ?_⟩
  · unfold qP; rw [if_pos hq]; exact a13
  · rw [es] at z
    exact absurd z rS_2
  · rw [es] at z
    obtain ⟨a, _⟩ := rS_3 z
    rw [a15, Nat.min_eq_left a.2.2, (num_v a.1 a.2.1 a.2.2).2.2]
    rfl
  · rw [es] at z
    obtain ⟨a, b, _⟩ := rS_4 z
    rw [a18, Nat.min_eq_left a.2.2, ev, b]
  · unfold qN
    rw [if_neg g59, a4, show q + (tE G q - q) = max (q + 1) (tE G q) by omega]
theorem s80 {G : TX} {q : Nat} {m0 m : DD} (X : VX G) (hq : q ≤ G.2.1) (hf : G.2.2 < G.2.1 → q < G.2.2) (S : SK m0 m) (B : BM G m) (h4 : m.1 86 4 = nI q) (h14 : m.1 86 14 = nI 0) (h13 : m.1 86 13 = nI q) : OW (f_X10_skip_80 m) (fun _ m' => SK m0 m' ∧ TFT G m' q) := by
  have hn := X.2.1
  have hl : lim G = min G.2.1 G.2.2 := rfl
  have pk := e_peek X B h4 hq
  unfold f_X10_skip_80
  rw [pk, ob_e]
  dsimp only
  by_cases c : q < G.2.1
  · have cl : q < lim G := by
      rcases Nat.lt_or_ge G.2.2 G.2.1 with z | z
      · have := hf z
        omega
      · omega
    have gi := X.1 q
    rw [if_pos c, if_neg (nI_pos (by omega)), e_small gi, ob_e]
    dsimp only
    cases c1 : lb (G.1 q)
    · rw [if_pos (show bI false = 0 from rfl), e_mdigit gi, ob_e]
      dsimp only
      cases c2 : db (G.1 q)
      · have na : anb (G.1 q) = false := by unfold anb; rw [c1, c2]; rfl
        rw [if_pos (show bI false = 0 from rfl)]
        have fin : ∀ s : Nat, s = mc (qS G q) → (qS G q = 2 → G.1 q = 59) → qS G q ≤ 2 → SK m0 (u1 (u1 (u1 m 86 12 (nI s)) 86 15 (nI (G.1 q))) 86 4 (nI (q + 1))) ∧ TFT G (u1 (u1 (u1 m 86 12 (nI s)) 86 15 (nI (G.1 q))) 86 4 (nI (q + 1))) q := by
          intro s hs h59 le
          refine ⟨sk_u1 (sk_u1 (sk_u1 S (by decide)) (by decide)) (by decide), ?_, ?_, fun z => ?_, fun z => absurd z (by omega), fun z => absurd z (by omega), fun z => ?_⟩
          · rw [u1_at, if_neg (by omega), u1_at, if_neg (by omega), u1_at, if_pos ⟨rfl, rfl⟩, hs]
          · rw [u1_at, if_neg (by omega), u1_at, if_neg (by omega), u1_at, if_neg (by omega), h13]
            unfold qP
            rw [if_pos cl]
          · rw [u1_at, if_neg (by omega), u1_at, if_pos ⟨rfl, rfl⟩, h59 z]
          · rw [u1_at, if_pos ⟨rfl, rfl⟩]
            unfold qN
            rw [if_pos (h59 (by omega))]
        have p4 : ∀ s : Int32, (u1 (u1 m 86 12 s) 86 15 (nI (G.1 q))).1 86 4 = nI q := fun s => by rw [u1_at, if_neg (by omega), u1_at, if_neg (by omega)]; exact h4
        by_cases c3 : G.1 q = 59
        · have es : qS G q = 2 := by unfold qS; rw [if_pos cl, if_pos c3]
          rw [if_pos (show nI (G.1 q) = 59 by rw [c3]; rfl), bd_e, bd_e, p4, nI_1, bd_e]
          exact ow_ret (fin 3 (by rw [es]; rfl) (fun _ => c3) (by omega))
        · have es : qS G q = 1 := by
            unfold qS rS
            rw [if_pos cl, if_neg c3, tE_na na, Nat.sub_self, if_neg (by omega), if_neg (by omega)]
          rw [if_neg (show ¬ nI (G.1 q) = 59 from fun z => c3 ((nI_eq (b := 59) (by omega) (by omega)).mp z)), bd_e, bd_e, p4, nI_1, bd_e]
          exact ow_ret (fin 4 (by rw [es]; rfl) (fun z => absurd z (by omega)) (by omega))
      · rw [if_neg (show ¬ bI true = 0 by decide)]
        exact s140 X cl (by unfold anb; rw [c1, c2]; rfl) S B h4 h14 h13
    · rw [if_neg (show ¬ bI true = 0 by decide)]
      exact s140 X cl (by unfold anb; rw [c1]; rfl) S B h4 h14 h13
  · have nl : ¬ q < lim G := by omega
    have nm : ¬ G.2.2 < G.2.1 := fun z => by have := hf z; omega
    have es : qS G q = 0 := by unfold qS; rw [if_neg nl, if_neg nm]
    rw [if_neg c, if_pos (by decide), bd_e]
    refine ow_ret ⟨sk_u1 S (by decide), ?_, ?_, fun z => absurd z (by omega), fun z => absurd z (by omega), fun z => absurd z (by omega), fun z => absurd z (by omega)⟩
    · rw [u1_at, if_pos ⟨rfl, rfl⟩, es]; rfl
    · rw [u1_at, if_neg (by omega), h13]
      unfold qP
      rw [if_neg nl, show q = lim G by omega]
theorem s0_l {G : TX} {m0 : DD} (X : VX G) : ∀ (k p f : Nat) (m : DD), p + k = G.2.1 → k < f → SK m0 m → BM G m → m.1 86 4 = nI p → OW (f_X10_skip_0 f m) (fun _ m' => SK m0 m' ∧ TFT G m' (tQ G p)) := by
  have hn := X.2.1
  have hm := X.2.2
  have hl : lim G = min G.2.1 G.2.2 := rfl
  have tl : ∀ (p : Nat) (m : DD), p ≤ G.2.1 → tQ G p = p → SK m0 m → BM G m → m.1 86 4 = nI p → OW (bd (u1 m 86 13 (m.1 86 4)) fun d4 => bd (u1 d4 86 14 (0 : Int32)) fun d5 => if (d5.1 86 5) < (d5.1 86 3) then (if (d5.1 86 4) < (d5.1 86 5) then f_X10_skip_80 d5 else bd (u1 d5 86 13 (d5.1 86 5)) fun d38 => bd (u1 d38 86 12 (4 : Int32)) fun d39 => some ((), d39)) else f_X10_skip_80 d5) (fun _ m' => SK m0 m' ∧ TFT G m' (tQ G p)) := by
    intro p m hp hq S B h4
    rw [h4, hq, bd_e, bd_e]
    have S1 : SK m (u1 (u1 m 86 13 (nI p)) 86 14 0) := sk_u1 (sk_u1 (sk_refl m) (by decide)) (by decide)
    have B1 := bm_sk B S1
    have a4 : (u1 (u1 m 86 13 (nI p)) 86 14 0).1 86 4 = nI p := by rw [u1_at, if_neg (by omega), u1_at, if_neg (by omega)]; exact h4
    have a14 : (u1 (u1 m 86 13 (nI p)) 86 14 0).1 86 14 = nI 0 := by rw [u1_at, if_pos ⟨rfl, rfl⟩]; rfl
    have a13 : (u1 (u1 m 86 13 (nI p)) 86 14 0).1 86 13 = nI p := by rw [u1_at, if_neg (by omega), u1_at, if_pos ⟨rfl, rfl⟩]
    rw [B1.1, B1.2.1, a4]
    by_cases c1 : G.2.2 < G.2.1
    · rw [if_pos ((nI_ltI (by omega) (by omega)).mpr c1)]
      by_cases c2 : p < G.2.2
      · rw [if_pos ((nI_ltI (by omega) (by omega)).mpr c2)]
        exact s80 X hp (fun _ => c2) (sk_trans S S1) B1 a4 a14 a13
      · rw [if_neg (fun z => c2 ((nI_ltI (by omega) (by omega)).mp z)), bd_e, bd_e]
        have nl : ¬ p < lim G := by omega
        have es : qS G p = 1 := by unfold qS; rw [if_neg nl, if_pos c1]
        refine ow_ret ⟨sk_u1 (sk_u1 (sk_trans S S1) (by decide)) (by decide), ?_, ?_, fun z => absurd z (by omega), fun z => absurd z (by omega), fun z => absurd z (by omega), fun z => absurd z (by omega)⟩
        · rw [u1_at, if_pos ⟨rfl, rfl⟩, es]; rfl
        · rw [u1_at, if_neg (by omega), u1_at, if_pos ⟨rfl, rfl⟩]
          unfold qP
          rw [if_neg nl, show lim G = G.2.2 by omega]
    · rw [if_neg (fun z => c1 ((nI_ltI (by omega) (by omega)).mp z))]
      exact s80 X hp (fun z => absurd z c1) (sk_trans S S1) B1 a4 a14 a13
  intro k
  induction k with
  | zero =>
    intro p f m hk hf S B h4
    obtain ⟨f, rfl⟩ : ∃ f', f = f' + 1 := ⟨f - 1, by omega⟩
    have pk := e_peek X B h4 (by omega)
    rw [if_neg (by omega)] at pk
    show OW (f_X10_skip_0B (f_X10_skip_0 f) _) _
    unfold f_X10_skip_0B
    rw [pk, ob_e]
    dsimp only
    rw [if_neg (by decide), pk, ob_e]
    dsimp only
    rw [if_neg (by decide)]
    exact tl p m (by omega) (tQ_end (by omega)) S B h4
  | succ k ih =>
    intro p f m hk hf S B h4
    obtain ⟨f, rfl⟩ : ∃ f', f = f' + 1 := ⟨f - 1, by omega⟩
    have pk := e_peek X B h4 (by omega)
    rw [if_pos (by omega)] at pk
    have gi := X.1 p
    have ws : wsb (G.1 p) = true → OW (f_X10_skip_18 (f_X10_skip_0 f) m) (fun _ m' => SK m0 m' ∧ TFT G m' (tQ G p)) := by
      intro c
      unfold f_X10_skip_18
      rw [h4, nI_1, bd_e, tQ_ws (by omega) c]
      exact ih (p + 1) f _ (by omega) (by omega) (sk_u1 S (by decide)) (bm_sk B (sk_u1 (sk_refl m) (by decide))) (by rw [u1_at, if_pos ⟨rfl, rfl⟩])
    show OW (f_X10_skip_0B (f_X10_skip_0 f) _) _
    unfold f_X10_skip_0B
    rw [pk, ob_e]
    dsimp only
    by_cases c1 : G.1 p = 32
    · rw [if_pos (show nI (G.1 p) = 32 by rw [c1]; rfl)]
      exact ws (by unfold wsb; exact decide_eq_true (Or.inl c1))
    · rw [if_neg (show ¬ nI (G.1 p) = 32 from fun z => c1 ((nI_eq (b := 32) (by omega) (by omega)).mp z)), pk, ob_e]
      dsimp only
      by_cases c2 : G.1 p = 10
      · rw [if_pos (show nI (G.1 p) = 10 by rw [c2]; rfl)]
        exact ws (by unfold wsb; exact decide_eq_true (Or.inr c2))
      · rw [if_neg (show ¬ nI (G.1 p) = 10 from fun z => c2 ((nI_eq (b := 10) (by omega) (by omega)).mp z))]
        exact tl p m (by omega) (tQ_nw (by unfold wsb; exact decide_eq_false (by omega))) S B h4
theorem e_skip {G : TX} {m : DD} {p : Nat} (X : VX G) (B : BM G m) (h4 : m.1 86 4 = nI p) (hp : p ≤ G.2.1) : ∃ m', f_X10_skip m = some ((), m') ∧ SK m m' ∧ TFT G m' (tQ G p) := by
  have hn := X.2.1
  obtain ⟨_, m', e, S, T⟩ := s0_l (m0 := m) X (G.2.1 - p) p FU m (by omega) (by unfold FU; omega) (sk_refl m) B h4
  exact ⟨m', e, S, T⟩
-- the model stands at token j
def MS (G : TX) (m : DD) (j : Nat) : Prop := BM G m ∧ TFT G m (pQ G j)
theorem ms_next {G : TX} {m : DD} {j : Nat} (X : VX G) (M : MS G m j) (h : 2 ≤ so G j) : ∃ m', f_X10_skip m = some ((), m') ∧ SK m m' ∧ MS G m' (j + 1) := by
  obtain ⟨B, T⟩ := M
  have hl : lim G = min G.2.1 G.2.2 := rfl
  have lq : pQ G j < lim G := qS_fin (show 1 < qS G (pQ G j) from h)
  have le := (qN_le (G := G) (q := pQ G j) (by omega)).2
  obtain ⟨m', e, S, T'⟩ := e_skip X B (T.2.2.2.2.2 h) le
  exact ⟨m', e, S, bm_sk B S, T'⟩
theorem ms_keep {G : TX} {m m' : DD} {j : Nat} (M : MS G m j) (e1 : m'.1 87 = m.1 87) (e2 : m'.2 86 = m.2 86) (e : ∀ i, i ∈ [3, 4, 5, 12, 13, 15] → m'.1 86 i = m.1 86 i) : MS G m' j := by
  obtain ⟨⟨a, b, c⟩, d, f, g, h, i, k⟩ := M
  refine ⟨⟨?_, ?_, ?_⟩, ?_, ?_, ?_, ?_, ?_, ?_⟩
  · rw [e 3 (by decide)]; exact a
  · rw [e 5 (by decide)]; exact b
  · rw [e1]; exact c
  · rw [e 12 (by decide)]; exact d
  · rw [e 13 (by decide)]; exact f
  · rw [e 15 (by decide)]; exact g
  · rw [e 15 (by decide)]; exact h
  · rw [e2]; exact i
  · rw [e 4 (by decide)]; exact k
