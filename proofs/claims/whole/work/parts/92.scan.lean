-- PURE ROWS: the class cuts a text into tokens
theorem e_letter {b : Nat} (hb : b < 256) (d : DD) : f_X7_isLetter (nI b) d = some (bI (lb b), d) := by
  unfold f_X7_isLetter lb
  by_cases c1 : b < 97
  · rw [if_pos (show nI b < (97 : Int32) from (nI_ltI (b := 97) (by omega) (by omega)).mpr c1), decide_eq_false (by omega)]; rfl
  · rw [if_neg (show ¬ nI b < (97 : Int32) from fun z => c1 ((nI_ltI (b := 97) (by omega) (by omega)).mp z))]
    by_cases c2 : 122 < b
    · rw [if_pos (show (122 : Int32) < nI b from (nI_ltI (a := 122) (by omega) (by omega)).mpr c2), decide_eq_false (by omega)]; rfl
    · rw [if_neg (show ¬ (122 : Int32) < nI b from fun z => c2 ((nI_ltI (a := 122) (by omega) (by omega)).mp z)), decide_eq_true (by omega)]; rfl
theorem e_digit {b : Nat} (hb : b < 256) (d : DD) : f_X7_isDigit (nI b) d = some (bI (db b), d) := by
  unfold f_X7_isDigit db
  by_cases c1 : b < 48
  · rw [if_pos (show nI b < (48 : Int32) from (nI_ltI (b := 48) (by omega) (by omega)).mpr c1), decide_eq_false (by omega)]; rfl
  · rw [if_neg (show ¬ nI b < (48 : Int32) from fun z => c1 ((nI_ltI (b := 48) (by omega) (by omega)).mp z))]
    by_cases c2 : 57 < b
    · rw [if_pos (show (57 : Int32) < nI b from (nI_ltI (a := 57) (by omega) (by omega)).mpr c2), decide_eq_false (by omega)]; rfl
    · rw [if_neg (show ¬ (57 : Int32) < nI b from fun z => c2 ((nI_ltI (a := 57) (by omega) (by omega)).mp z)), decide_eq_true (by omega)]; rfl
theorem e_small {b : Nat} (hb : b < 256) (d : DD) : f_X10_isSmall (nI b) d = some (bI (lb b), d) := e_letter hb d
theorem e_mdigit {b : Nat} (hb : b < 256) (d : DD) : f_X10_isDigit (nI b) d = some (bI (db b), d) := e_digit hb d
def CB (G : TX) (d : DD) : Prop := ∀ i, i < G.2.1 → d.1 1 i = nI (G.1 i)
theorem re_l {G : TX} {d : DD} (X : VX G) (C : CB G d) : ∀ (m i f : Nat), i + m = G.2.1 → m < f → f_X7_runEnd_5 1 f (nI G.2.1) (nI i) (nI i) d = some (nI (rnN G.1 m i), d) := by
  have hn := X.2.1
  intro m
  induction m with
  | zero =>
    intro i f hi hf
    cases f with
    | zero => omega
    | succ f =>
      show f_X7_runEnd_5B 1 (f_X7_runEnd_5 1 f) _ _ _ _ = _
      unfold f_X7_runEnd_5B
      rw [if_neg (by rw [nI_ltI (by omega) (by omega)]; omega)]
      rfl
  | succ m ih =>
    intro i f hi hf
    cases f with
    | zero => omega
    | succ f =>
      have s := ih (i + 1) f (by omega) (by omega)
      have at1 : rd1 d 1 (nI i) = nI (G.1 i) := by rw [rd1_in (by rw [ln_1]; omega)]; exact C i (by omega)
      have gi := X.1 i
      show f_X7_runEnd_5B 1 (f_X7_runEnd_5 1 f) _ _ _ _ = some (nI (if anb (G.1 i) = true then rnN G.1 m (i + 1) else i), d)
      unfold f_X7_runEnd_5B
      rw [if_pos (by rw [nI_ltI (by omega) (by omega)]; omega), e_X9_at, ob_e, at1]
      dsimp only
      rw [e_letter gi, ob_e]
      dsimp only
      rw [nI_1]
      cases c : lb (G.1 i)
      · rw [if_pos (show bI false = 0 from rfl), e_X9_at, ob_e, at1]
        dsimp only
        rw [e_digit gi, ob_e]
        dsimp only
        cases c2 : db (G.1 i)
        · rw [if_pos (show bI false = 0 from rfl), if_neg (by unfold anb; rw [c, c2]; decide)]
        · rw [if_neg (show ¬ bI true = 0 by decide), if_pos (by unfold anb; rw [c, c2]; decide)]
          exact s
      · rw [if_neg (show ¬ bI true = 0 by decide), if_pos (by unfold anb; rw [c]; rfl)]
        exact s
theorem e_runEnd {G : TX} {d : DD} (X : VX G) (C : CB G d) {q : Nat} (hq : q ≤ G.2.1) : f_X7_runEnd 1 (nI q) (nI G.2.1) d = some (nI (tE G q), d) := by
  have hn := X.2.1
  exact re_l X C (G.2.1 - q) q FU (by omega) (by unfold FU; omega)
def aT (d : DD) (j s p : Nat) (v : Int64) : DD := u1 (u2 (u1 (u1 d 46 j (nI s)) 47 j (nI p)) 48 j v) 45 0 (nI (j + 1))
theorem e_addToken {d : DD} {j s p : Nat} {v : Int64} (h0 : d.1 45 0 = nI j) (hj : j < 941) : f_X7_addToken (nI s) (nI p) v d = some ((), aT d j s p v) := by
  have r1 : (u1 d 46 j (nI s)).1 45 0 = nI j := by rw [u1_at, if_neg (by omega)]; exact h0
  have r2 : (u1 (u1 d 46 j (nI s)) 47 j (nI p)).1 45 0 = nI j := by rw [u1_at, if_neg (by omega)]; exact r1
  have r3 : (u2 (u1 (u1 d 46 j (nI s)) 47 j (nI p)) 48 j v).1 45 0 = nI j := r2
  unfold f_X7_addToken
  rw [e_X9_put, ob_e, h0, wr1_in (by rw [ln_46]; exact hj)]
  dsimp only
  rw [r1, e_X9_put, ob_e, wr1_in (by rw [ln_47]; exact hj)]
  dsimp only
  rw [r2, e_X9_putLong, ob_e, wr2_in (by rw [ln_48]; exact hj)]
  dsimp only
  rw [r3, bd_e, nI_1]
  rfl
def TI (G : TX) (d0 : DD) (j : Nat) (d : DD) : Prop := FR [45, 46, 47, 48] d0 d ∧ d.1 45 0 = nI j ∧ ∀ i, i < j → d.1 46 i = nI (so G i) ∧ d.1 47 i = nI (pl G i) ∧ d.2 48 i = va G i
theorem ti_s {G : TX} {d0 d : DD} {j s p : Nat} {v : Int64} (I : TI G d0 j d) (hs : s = so G j) (hp : p = pl G j) (hv : v = va G j) : TI G d0 (j + 1) (aT d j s p v) := by
  obtain ⟨F, h0, A⟩ := I
  subst hs
  subst hp
  subst hv
  refine ⟨fr_u1 (fr_u2 (fr_u1 (fr_u1 F (by decide)) (by decide)) (by decide)) (by decide), ?_, fun i hi => ?_⟩
  · unfold aT
    rw [u1_at, if_pos ⟨rfl, rfl⟩]
  · unfold aT
    by_cases c : i = j
    · subst c
      refine ⟨?_, ?_, ?_⟩
      · rw [u1_at, if_neg (by omega), u2_1, u1_at, if_neg (by omega), u1_at, if_pos ⟨rfl, rfl⟩]
      · rw [u1_at, if_neg (by omega), u2_1, u1_at, if_pos ⟨rfl, rfl⟩]
      · rw [u1_2, u2_at, if_pos ⟨rfl, rfl⟩]
    · obtain ⟨a, b, e⟩ := A i (by omega)
      refine ⟨?_, ?_, ?_⟩
      · rw [u1_at, if_neg (by omega), u2_1, u1_at, if_neg (by omega), u1_at, if_neg (fun z => c z.2)]; exact a
      · rw [u1_at, if_neg (by omega), u2_1, u1_at, if_neg (fun z => c z.2), u1_at, if_neg (by omega)]; exact b
      · rw [u1_2, u2_at, if_neg (fun z => c z.2), u1_2, u1_2]; exact e
theorem e_sortOf (v : Int64) (d : DD) : f_X7_sortOf v d = some (nI (srt v), d) := by
  unfold f_X7_sortOf srt
  repeat' split
  all_goals rfl
theorem a140 {d : DD} {j q : Nat} (h0 : d.1 45 0 = nI j) (hj : j < 941) : f_X7_addRun_140 1 (nI q) d = some ((), aT d j 1 q 0) := by
  unfold f_X7_addRun_140
  rw [show (1 : Int32) = nI 1 from rfl, e_addToken h0 hj, ob_e]
theorem ar_l {G : TX} {d : DD} (X : VX G) (C : CB G d) {j q M : Nat} (h0 : d.1 45 0 = nI j) (hj : j < 941) (hq : q + M ≤ G.2.1) : ∀ (m i f : Nat), i + m = M → m < f → f_X7_addRun_15 1 f (nI q) (nI (q + M)) (nI (i - DG G.1 q i)) (nI (DG G.1 q i)) (W64 G.1 q i) (N64 G.1 q i) (nI (q + i)) d = some ((), aT d j (rS G.1 q M) q (rV G.1 q M)) := by
  have hn := X.2.1
  intro m
  induction m with
  | zero =>
    intro i f hi hf
    cases f with
    | zero => omega
    | succ f =>
      have e : i = M := by omega
      subst e
      have dl := dg_le G.1 q i
      have t140 := a140 (q := q) h0 hj
      show f_X7_addRun_15B 1 (f_X7_addRun_15 1 f) _ _ _ _ _ _ _ _ = _
      unfold f_X7_addRun_15B
      rw [if_neg (by rw [nI_ltI (by omega) (by omega)]; omega)]
      by_cases c1 : DG G.1 q i = 0
      · rw [if_pos (show nI (DG G.1 q i) = 0 by rw [c1]; rfl)]
        by_cases c2 : i < 1
        · rw [if_pos (show nI (i - DG G.1 q i) < (1 : Int32) from (nI_ltI (b := 1) (by omega) (by omega)).mpr (by omega))]
          unfold f_X7_addRun_112 rS rV
          rw [if_pos (show nI (i - DG G.1 q i) = 0 from (nI_eq (b := 0) (by omega) (by omega)).mpr (by omega)), if_pos (show nI (DG G.1 q i) < (1 : Int32) from (nI_ltI (b := 1) (by omega) (by omega)).mpr (by omega)), if_neg (by omega), if_neg (by omega), if_neg (by omega), if_neg (by omega)]
          exact t140
        · rw [if_neg (show ¬ nI (i - DG G.1 q i) < (1 : Int32) from fun z => by have := (nI_ltI (b := 1) (by omega) (by omega)).mp z; omega)]
          by_cases c3 : 6 < i
          · rw [if_pos (show (6 : Int32) < nI (i - DG G.1 q i) from (nI_ltI (a := 6) (by omega) (by omega)).mpr (by omega))]
            unfold f_X7_addRun_112 rS rV
            rw [if_neg (show ¬ nI (i - DG G.1 q i) = 0 from fun z => by have := (nI_eq (b := 0) (by omega) (by omega)).mp z; omega), if_neg (by omega), if_neg (by omega), if_neg (by omega), if_neg (by omega)]
            exact t140
          · rw [if_neg (show ¬ (6 : Int32) < nI (i - DG G.1 q i) from fun z => by have := (nI_ltI (a := 6) (by omega) (by omega)).mp z; omega), e_sortOf, ob_e]
            dsimp only
            rw [e_addToken h0 hj, ob_e]
            unfold rS rV
            rw [if_pos (by omega), if_pos (by omega)]
      · rw [if_neg (show ¬ nI (DG G.1 q i) = 0 from fun z => by have := (nI_eq (b := 0) (by omega) (by omega)).mp z; omega)]
        unfold f_X7_addRun_112 rS rV
        rw [if_neg (show ¬ (DG G.1 q i = 0 ∧ 1 ≤ i ∧ i ≤ 6) by omega), if_neg (show ¬ (DG G.1 q i = 0 ∧ 1 ≤ i ∧ i ≤ 6) by omega)]
        by_cases c2 : DG G.1 q i = i
        · rw [if_pos (show nI (i - DG G.1 q i) = 0 from (nI_eq (b := 0) (by omega) (by omega)).mpr (by omega)), if_neg (show ¬ nI (DG G.1 q i) < (1 : Int32) from fun z => by have := (nI_ltI (b := 1) (by omega) (by omega)).mp z; omega)]
          by_cases c3 : 2 < i
          · rw [if_pos (show (2 : Int32) < nI (DG G.1 q i) from (nI_ltI (a := 2) (by omega) (by omega)).mpr (by omega)), if_neg (by omega), if_neg (by omega)]
            exact t140
          · rw [if_neg (show ¬ (2 : Int32) < nI (DG G.1 q i) from fun z => by have := (nI_ltI (a := 2) (by omega) (by omega)).mp z; omega), show (3 : Int32) = nI 3 from rfl, e_addToken h0 hj, ob_e, if_pos (by omega), if_pos (by omega)]
        · rw [if_neg (show ¬ nI (i - DG G.1 q i) = 0 from fun z => by have := (nI_eq (b := 0) (by omega) (by omega)).mp z; omega), if_neg (by omega), if_neg (by omega)]
          exact t140
  | succ m ih =>
    intro i f hi hf
    cases f with
    | zero => omega
    | succ f =>
      have s := ih (i + 1) f (by omega) (by omega)
      have dl := dg_le G.1 q i
      have at1 : rd1 d 1 (nI (q + i)) = nI (G.1 (q + i)) := by rw [rd1_in (by rw [ln_1]; omega)]; exact C (q + i) (by omega)
      have we : W64 G.1 q (i + 1) = (W64 G.1 q i <<< ((8 : Int32).toInt64 &&& 63)) ||| (nI (G.1 (q + i))).toInt64 := rfl
      have ne : N64 G.1 q (i + 1) = if db (G.1 (q + i)) = true then ((N64 G.1 q i * (10 : Int64)) + (nI (G.1 (q + i))).toInt64) - (48 : Int64) else N64 G.1 q i := rfl
      have de : DG G.1 q (i + 1) = if db (G.1 (q + i)) = true then DG G.1 q i + 1 else DG G.1 q i := rfl
      show f_X7_addRun_15B 1 (f_X7_addRun_15 1 f) _ _ _ _ _ _ _ _ = _
      unfold f_X7_addRun_15B
      rw [if_pos (by rw [nI_ltI (by omega) (by omega)]; omega), e_X9_at, ob_e, at1]
      dsimp only
      rw [bd_e, ← we, e_digit (X.1 _), ob_e]
      dsimp only
      rw [nI_1 (q + i)]
      cases c : db (G.1 (q + i))
      · rw [c, if_neg (by decide)] at ne de
        rw [de, ne] at s
        rw [if_pos (show bI false = 0 from rfl), nI_1, show i - DG G.1 q i + 1 = i + 1 - DG G.1 q i by omega]
        exact s
      · rw [c, if_pos rfl] at ne de
        rw [de, ne, show i + 1 - (DG G.1 q i + 1) = i - DG G.1 q i by omega] at s
        rw [if_neg (show ¬ bI true = 0 by decide), bd_e, nI_1]
        exact s
theorem e_addRun {G : TX} {d : DD} (X : VX G) (C : CB G d) {j q M : Nat} (h0 : d.1 45 0 = nI j) (hj : j < 941) (hq : q + M ≤ G.2.1) : f_X7_addRun 1 (nI q) (nI (q + M)) d = some ((), aT d j (rS G.1 q M) q (rV G.1 q M)) := by
  have hn := X.2.1
  exact ar_l X C h0 hj hq M 0 FU (by omega) (by unfold FU; omega)
theorem mx_pI {q e : Nat} (h : q ≤ e) (he : e ≤ 940) : mxI (nI q) (nI e - (1 : Int32)) + (1 : Int32) = nI (max (q + 1) e) := by
  unfold mxI
  rw [show nI e - (1 : Int32) = pI e from rfl]
  rcases Nat.eq_zero_or_pos e with z | z
  · subst z
    have : q = 0 := by omega
    subst this
    decide
  · rw [pI_pos z]
    by_cases c : q < e - 1
    · rw [if_pos ((nI_ltI (by omega) (by omega)).mpr c), nI_1, show e - 1 + 1 = max (q + 1) e by omega]
    · rw [if_neg (fun w => c ((nI_ltI (by omega) (by omega)).mp w)), nI_1, show max (q + 1) e = q + 1 by omega]
theorem sc_l {G : TX} {d0 : DD} (X : VX G) (C0 : CB G d0) : ∀ (k fr i j f : Nat) (d : DD), G.2.1 ≤ fr + k → k + 1 < f → i ≤ fr → fr ≤ G.2.1 → j ≤ fr → tQ G fr = pQ G j → TI G d0 j d → OW (f_X7_scan_18 1 f (nI G.2.1) (nI G.2.2) (nI (lim G)) (nI fr) (nI i) d) (fun _ d' => ∃ T, T ≤ 940 ∧ so G T ≤ 1 ∧ TI G d0 (T + 1) d') := by
  have hn := X.2.1
  have hm := X.2.2
  have hl : lim G = min G.2.1 G.2.2 := rfl
  intro k
  induction k with
  | zero =>
    intro fr i j f d hk hf hi hfr hj hq I
    obtain ⟨f, rfl⟩ : ∃ f', f = f' + 1 := ⟨f - 1, by omega⟩
    have fin : OW (f_X7_scan_111 1 (nI G.2.1) (nI G.2.2) (nI (lim G)) d) (fun _ d' => ∃ T, T ≤ 940 ∧ so G T ≤ 1 ∧ TI G d0 (T + 1) d') := by
      have ge := (tQ_le hfr).1
      have nq : ¬ pQ G j < lim G := by omega
      have es : so G j = if G.2.2 < G.2.1 then 1 else 0 := by unfold so qS; rw [if_neg nq]
      have ep : pl G j = lim G := by unfold pl qP; rw [if_neg nq]
      have ev : va G j = 0 := by unfold va qV; rw [if_neg nq]
      unfold f_X7_scan_111
      by_cases c : G.2.2 < G.2.1
      · rw [if_pos c] at es
        rw [if_pos ((nI_ltI (by omega) (by omega)).mpr c), show (1 : Int32) = nI 1 from rfl, e_addToken I.2.1 (by omega), ob_e]
        exact ow_ret ⟨j, by omega, by omega, ti_s I es.symm ep.symm ev.symm⟩
      · rw [if_neg c] at es
        rw [if_neg (fun z => c ((nI_ltI (by omega) (by omega)).mp z)), show (0 : Int32) = nI 0 from rfl, e_addToken I.2.1 (by omega), ob_e]
        exact ow_ret ⟨j, by omega, by omega, ti_s I es.symm ep.symm ev.symm⟩
    show OW (f_X7_scan_18B 1 (f_X7_scan_18 1 f) _ _ _ _ _ _) _
    unfold f_X7_scan_18B
    by_cases c0 : nI i < (940 : Int32)
    · rw [if_pos c0, if_neg (by rw [nI_ltI (by omega) (by omega)]; omega)]
      exact fin
    · rw [if_neg c0]
      exact fin
  | succ k ih =>
    intro fr i j f d hk hf hi hfr hj hq I
    obtain ⟨f, rfl⟩ : ∃ f', f = f' + 1 := ⟨f - 1, by omega⟩
    by_cases cl : fr < lim G
    · have C : CB G d := fun u hu => by rw [(I.1 1 (by decide)).1]; exact C0 u hu
      have at1 : rd1 d 1 (nI fr) = nI (G.1 fr) := by rw [rd1_in (by rw [ln_1]; omega)]; exact C fr (by omega)
      have gi := X.1 fr
      show OW (f_X7_scan_18B 1 (f_X7_scan_18 1 f) _ _ _ _ _ _) _
      unfold f_X7_scan_18B
      rw [if_pos (show nI i < (940 : Int32) from (nI_ltI (b := 940) (by omega) (by omega)).mpr (by omega)), if_pos (by rw [nI_ltI (by omega) (by omega)]; exact cl), e_X9_at, ob_e, at1]
      dsimp only
      rw [nI_1 i]
      by_cases c1 : G.1 fr = 59
      · have tq : pQ G j = fr := by rw [← hq]; exact tQ_nw (by unfold wsb; exact decide_eq_false (by omega))
        have es : so G j = 2 := by unfold so qS; rw [tq, if_pos cl, if_pos c1]
        have ep : pl G j = fr := by unfold pl qP; rw [tq, if_pos cl]
        have ev : va G j = 0 := by unfold va qV; rw [tq, if_pos cl, if_pos c1]
        have nx : pQ G (j + 1) = tQ G (fr + 1) := by
          show tQ G (qN G (pQ G j)) = _
          rw [tq]
          unfold qN
          rw [if_pos c1]
        rw [if_pos (show nI (G.1 fr) = 59 by rw [c1]; rfl), show (2 : Int32) = nI 2 from rfl, e_addToken I.2.1 (by omega), ob_e]
        dsimp only
        rw [nI_1]
        exact ih (fr + 1) (i + 1) (j + 1) f _ (by omega) (by omega) (by omega) (by omega) (by omega) nx.symm (ti_s I es.symm ep.symm ev.symm)
      · rw [if_neg (show ¬ nI (G.1 fr) = 59 from fun z => c1 ((nI_eq (b := 59) (by omega) (by omega)).mp z))]
        by_cases c2 : wsb (G.1 fr) = true
        · have st := ih (fr + 1) (i + 1) j f d (by omega) (by omega) (by omega) (by omega) (by omega) (by rw [← tQ_ws (by omega) c2]; exact hq) I
          unfold wsb at c2
          rw [decide_eq_true_iff] at c2
          rw [nI_1]
          rcases c2 with c2 | c2
          · rw [if_pos (show nI (G.1 fr) = 32 by rw [c2]; rfl)]
            exact st
          · rw [if_neg (show ¬ nI (G.1 fr) = 32 from fun z => by have := (nI_eq (b := 32) (by omega) (by omega)).mp z; omega), if_pos (show nI (G.1 fr) = 10 by rw [c2]; rfl)]
            exact st
        · rw [Bool.not_eq_true] at c2
          have tq : pQ G j = fr := by rw [← hq]; exact tQ_nw c2
          have le := tE_le (G := G) (q := fr) (by omega)
          have es : so G j = rS G.1 fr (tE G fr - fr) := by unfold so qS; rw [tq, if_pos cl, if_neg c1]
          have ep : pl G j = fr := by unfold pl qP; rw [tq, if_pos cl]
          have ev : va G j = rV G.1 fr (tE G fr - fr) := by unfold va qV; rw [tq, if_pos cl, if_neg c1]
          have nx : pQ G (j + 1) = tQ G (max (fr + 1) (tE G fr)) := by
            show tQ G (qN G (pQ G j)) = _
            rw [tq]
            unfold qN
            rw [if_neg c1]
          unfold wsb at c2
          rw [decide_eq_false_iff_not] at c2
          rw [if_neg (show ¬ nI (G.1 fr) = 32 from fun z => by have := (nI_eq (b := 32) (by omega) (by omega)).mp z; omega), if_neg (show ¬ nI (G.1 fr) = 10 from fun z => by have := (nI_eq (b := 10) (by omega) (by omega)).mp z; omega), e_runEnd X C (by omega), ob_e]
          dsimp only
          have ar := e_addRun X C (q := fr) (M := tE G fr - fr) I.2.1 (by omega) (by omega)
          rw [show fr + (tE G fr - fr) = tE G fr by omega] at ar
          rw [ar, ob_e]
          dsimp only
          rw [bd_e, mx_pI le.1 (by omega)]
          exact ih (max (fr + 1) (tE G fr)) (i + 1) (j + 1) f _ (by omega) (by omega) (by omega) (by omega) (by omega) nx.symm (ti_s I es.symm ep.symm ev.symm)
    · have fin : OW (f_X7_scan_111 1 (nI G.2.1) (nI G.2.2) (nI (lim G)) d) (fun _ d' => ∃ T, T ≤ 940 ∧ so G T ≤ 1 ∧ TI G d0 (T + 1) d') := by
        have ge := (tQ_le hfr).1
        have nq : ¬ pQ G j < lim G := by omega
        have es : so G j = if G.2.2 < G.2.1 then 1 else 0 := by unfold so qS; rw [if_neg nq]
        have ep : pl G j = lim G := by unfold pl qP; rw [if_neg nq]
        have ev : va G j = 0 := by unfold va qV; rw [if_neg nq]
        unfold f_X7_scan_111
        by_cases c : G.2.2 < G.2.1
        · rw [if_pos c] at es
          rw [if_pos ((nI_ltI (by omega) (by omega)).mpr c), show (1 : Int32) = nI 1 from rfl, e_addToken I.2.1 (by omega), ob_e]
          exact ow_ret ⟨j, by omega, by omega, ti_s I es.symm ep.symm ev.symm⟩
        · rw [if_neg c] at es
          rw [if_neg (fun z => c ((nI_ltI (by omega) (by omega)).mp z)), show (0 : Int32) = nI 0 from rfl, e_addToken I.2.1 (by omega), ob_e]
          exact ow_ret ⟨j, by omega, by omega, ti_s I es.symm ep.symm ev.symm⟩
      show OW (f_X7_scan_18B 1 (f_X7_scan_18 1 f) _ _ _ _ _ _) _
      unfold f_X7_scan_18B
      by_cases c0 : nI i < (940 : Int32)
      · rw [if_pos c0, if_neg (by rw [nI_ltI (by omega) (by omega)]; omega)]
        exact fin
      · rw [if_neg c0]
        exact fin
theorem mn_nI {a b : Nat} (ha : a ≤ 940) (hb : b ≤ 940) : mnI (nI a) (nI b) = nI (min a b) := by
  unfold mnI
  by_cases c : b < a
  · rw [if_pos ((nI_ltI (by omega) (by omega)).mpr c), Nat.min_eq_right (by omega)]
  · rw [if_neg (fun z => c ((nI_ltI (by omega) (by omega)).mp z)), Nat.min_eq_left (by omega)]
-- the class's cursor stands at token j
def CUR (G : TX) (T j : Nat) (c : DD) : Prop := (∀ i, i ≤ T → c.1 46 i = nI (so G i) ∧ c.1 47 i = nI (pl G i) ∧ c.2 48 i = va G i) ∧ c.1 44 1 = nI j ∧ j ≤ T ∧ T ≤ 940 ∧ so G T ≤ 1
theorem e_begin {G : TX} {d : DD} (X : VX G) (C : CB G d) : OW (f_X0_begin 1 (nI G.2.1) (nI G.2.2) d) (fun _ d' => FR [44, 45, 46, 47, 48] d d' ∧ d'.1 44 2 = nI 0 ∧ ∃ T, CUR G T 0 d') := by
  have hn := X.2.1
  have hm := X.2.2
  unfold f_X0_begin f_X7_scan
  rw [bd_e, bd_e, mn_nI hn hm]
  have I0 : TI G d 0 (u1 d 45 0 0) := ⟨fr_u1 (fr_refl _ _) (by decide), by rw [u1_at, if_pos ⟨rfl, rfl⟩]; rfl, fun i hi => absurd hi (Nat.not_lt_zero i)⟩
  refine ow_call (sc_l X C G.2.1 0 0 0 FU _ (by omega) (by unfold FU; omega) (by omega) (by omega) (by omega) rfl I0) ?_
  rintro _ d1 ⟨T, hT, hs, F, h0, A⟩
  dsimp only
  rw [bd_e, bd_e, bd_e]
  refine ow_ret ⟨fr_u1 (fr_u1 (fr_u1 (fr_mono F (by decide)) (by decide)) (by decide)) (by decide), ?_, T, fun i hi => ?_, ?_, Nat.zero_le _, hT, hs⟩
  · rw [u1_at, if_neg (by omega), u1_at, if_pos ⟨rfl, rfl⟩]; rfl
  · obtain ⟨a, b, e⟩ := A i (by omega)
    refine ⟨?_, ?_, e⟩
    · rw [u1_at, if_neg (by omega), u1_at, if_neg (by omega), u1_at, if_neg (by omega)]; exact a
    · rw [u1_at, if_neg (by omega), u1_at, if_neg (by omega), u1_at, if_neg (by omega)]; exact b
  · rw [u1_at, if_neg (by omega), u1_at, if_neg (by omega), u1_at, if_pos ⟨rfl, rfl⟩]; rfl
