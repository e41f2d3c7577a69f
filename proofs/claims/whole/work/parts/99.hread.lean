-- PURE ROWS: a house's text: what its lines use
def KP (m m' : DD) : Prop := MF m m' ∧ (∀ a, a ≠ 86 → m'.1 a = m.1 a ∧ m'.2 a = m.2 a) ∧ ∀ q, q ∈ [16, 20, 23] → m'.1 86 q = m.1 86 q
theorem kp_refl (m : DD) : KP m m := ⟨mf_refl m, fun _ _ => ⟨rfl, rfl⟩, fun _ _ => rfl⟩
theorem kp_trans {m m' m'' : DD} (h : KP m m') (g : KP m' m'') : KP m m'' := ⟨mf_trans h.1 g.1, fun a ha => ⟨(g.2.1 a ha).1.trans (h.2.1 a ha).1, (g.2.1 a ha).2.trans (h.2.1 a ha).2⟩, fun q hq => (g.2.2 q hq).trans (h.2.2 q hq)⟩
theorem kp_sk {m m' : DD} (S : SK m m') : KP m m' := by
  refine ⟨mf_sk S, S.1, fun q hq => S.2 q ?_⟩
  simp only [List.mem_cons, List.not_mem_nil, or_false] at hq ⊢
  omega
theorem kp_19 (m : DD) (x : Int32) : KP m (u1 m 86 19 x) := by
  refine ⟨mf_86 (mf_refl m) (by decide), fun a ha => ⟨?_, rfl⟩, fun q hq => ?_⟩
  · funext i
    rw [u1_at, if_neg (fun z => ha z.1)]
  · simp only [List.mem_cons, List.not_mem_nil, or_false] at hq
    rw [u1_at, if_neg (by omega)]
theorem ms_19 {G : TX} {m : DD} {j : Nat} (M : MS G m j) (x : Int32) : MS G (u1 m 86 19 x) j := ms_keep M (by funext i; rw [u1_at, if_neg (by omega)]) rfl (fun i hi => by rw [u1_at, if_neg (fun z => by rw [z.2] at hi; exact absurd hi (by decide))])
theorem e_take {G : TX} {j : Nat} {m : DD} (X : VX G) (M : MS G m j) {lo hi : Nat} (hlo : lo < 1000) (hhi : hi < 1000) : (so G j = 3 → lo ≤ dv G j ∧ dv G j ≤ hi → ∃ m', f_X10_takes (nI lo) (nI hi) m = some ((1 : Int32), m') ∧ KP m m' ∧ m'.1 86 19 = nI (dv G j) ∧ MS G m' (j + 1)) ∧ (so G j = 3 → ¬ (lo ≤ dv G j ∧ dv G j ≤ hi) → f_X10_takes (nI lo) (nI hi) m = some ((0 : Int32), RB m 2 (pl G j))) ∧ (¬ so G j = 3 → f_X10_takes (nI lo) (nI hi) m = some ((0 : Int32), RB m 1 (pl G j))) := by
  obtain ⟨a, b, c⟩ := e_takes X M hlo hhi
  refine ⟨fun s d => ?_, b, c⟩
  obtain ⟨m', e, F, O, P, g, M'⟩ := a s d
  exact ⟨m', e, ⟨F, O, P⟩, g, M'⟩
def LH (oc om : Option (Int32 × DD)) (c0 m0 : DD) (Q : DD → DD → Prop) : Prop := ∃ r c' m', oc = some (r, c') ∧ ((r = (0 : Int32) ∧ (om = some ((0 : Int32), m') ∨ ∃ m1, om = some ((1 : Int32), m1) ∧ f_X10_sign (59 : Int32) m1 = some ((0 : Int32), m')) ∧ FLT c0 m0 c' m') ∨ (r = (1 : Int32) ∧ om = some ((1 : Int32), m') ∧ Q c' m'))
theorem lh_bad {G : TX} {j : Nat} {c0 m0 c m : DD} {Q : DD → DD → Prop} (X : VX G) (C : CFR c0 c) (M : MF m0 m) (k : Nat) : LH (some ((0 : Int32), RF c k (pl G j))) (some ((0 : Int32), RB m k (pl G j))) c0 m0 Q := ⟨0, _, _, rfl, Or.inl ⟨rfl, Or.inl rfl, flt X C M k⟩⟩
-- the class's fresh house, the model's
def CP (h : Nat → Nat) (nm : Nat → Int64) (wd : Nat → Nat) (c : DD) : Prop := HC 50 c h nm ∧ (∀ a, a < 4 → c.1 57 a = nI (h (15 + a)) ∧ h (15 + a) < 2 ^ 30) ∧ ∀ a, a < 4 → c.1 64 a = nI (wd a) ∧ wd a < 2 ^ 30 ∧ ∀ u, u < 30 → (wd a).testBit u = decide (0 < h (49 + (30 * a + u)))
def MP (h : Nat → Nat) (nm : Nat → Int64) (m : DD) : Prop := (∀ q, q < 169 → m.1 89 q = nI (h q)) ∧ (∀ k, k < h 0 → m.2 92 (7 + k) = nm k) ∧ ∀ a, a < h 1 → m.2 92 (10 + a) = nm (3 + a)
theorem cp_keep {h nm wd} {c c' : DD} (C : CP h nm wd c) (e : ∀ a, 50 ≤ a → a ≤ 64 → c'.1 a = c.1 a ∧ c'.2 a = c.2 a) : CP h nm wd c' := by
  obtain ⟨H, L, W⟩ := C
  refine ⟨hc_cong H (e 50 (by omega) (by omega)).1 (by rw [rf_50_2]; exact (e 51 (by omega) (by omega)).2) (by rw [rf_50_3]; exact (e 52 (by omega) (by omega)).1) (by rw [rf_50_4]; exact (e 53 (by omega) (by omega)).1) (by rw [rf_50_5]; exact (e 54 (by omega) (by omega)).1) (by rw [rf_50_6]; exact (e 55 (by omega) (by omega)).2) (by rw [rf_50_7]; exact (e 56 (by omega) (by omega)).1) (by rw [rf_50_8]; exact (e 57 (by omega) (by omega)).1) (by rw [rf_50_9]; exact (e 58 (by omega) (by omega)).1) (by rw [rf_50_10]; exact (e 59 (by omega) (by omega)).1) (by rw [rf_50_11]; exact (e 60 (by omega) (by omega)).1) (by rw [rf_50_11, rf_60_1]; exact (e 61 (by omega) (by omega)).1) (by rw [rf_50_11, rf_60_2]; exact (e 62 (by omega) (by omega)).1) (by rw [rf_50_11, rf_60_3]; exact (e 63 (by omega) (by omega)).1), ?_, ?_⟩
  · rw [(e 57 (by omega) (by omega)).1]; exact L
  · rw [(e 64 (by omega) (by omega)).1]; exact W
theorem cp_nx {h nm wd} {c : DD} {j : Nat} (C : CP h nm wd c) : CP h nm wd (nxc c j) := cp_keep C (fun a h1 h2 => ⟨by funext i; exact nx_o (by omega), rfl⟩)
theorem mp_kp {h nm} {m m' : DD} (M : MP h nm m) (K : KP m m') : MP h nm m' := by
  unfold MP at M ⊢
  rw [(K.2.1 89 (by decide)).1, (K.2.1 92 (by decide)).2]
  exact M
theorem e_peekNew {G : TX} {T j : Nat} {c : DD} {h nm} (V : VH h) (C : CUR G T j c) (H : HC 50 c h nm) : f_X0_peekNewName 50 c = if so G j = 4 then (if ff nm (va G j) (h 0) 0 = none ∧ ff (fun a => nm (3 + a)) (va G j) (h 1) 0 = none then some ((1 : Int32), c) else some ((0 : Int32), RF c 3 (pl G j))) else some ((0 : Int32), RF c 1 (pl G j)) := by
  have v0 := V.1
  have v1 := V.2.1
  have b40 : f_X0_peekNewName_40 50 c = some ((0 : Int32), RF c 3 (pl G j)) := by
    unfold f_X0_peekNewName_40
    rw [show f_X0_refuse (3 : Int32) c = _ from e_refuse C 3, ob_e]
  unfold f_X0_peekNewName
  rw [e_sort C, ob_e]
  dsimp only
  by_cases s : so G j = 4
  · rw [if_pos (show nI (so G j) = 4 by rw [s]; rfl), if_pos s, e_value C, ob_e]
    dsimp only
    rw [e_kindOf hb_50 V H, ob_e]
    dsimp only
    cases q1 : ff nm (va G j) (h 0) 0 with
    | some a =>
      have := ff_lt q1
      rw [if_neg (show ¬ fI (some a) = (-1 : Int32) from nI_nm (by omega)), b40, if_neg (by rintro ⟨z, _⟩; cases z)]
    | none =>
      rw [if_pos (show fI none = (-1 : Int32) from rfl), e_value C, ob_e]
      dsimp only
      rw [e_personOf hb_50 V H, ob_e]
      dsimp only
      cases q2 : ff (fun a => nm (3 + a)) (va G j) (h 1) 0 with
      | some a =>
        have := ff_lt q2
        rw [if_neg (show ¬ fI (some a) = (-1 : Int32) from nI_nm (by omega)), b40, if_neg (by rintro ⟨_, z⟩; cases z)]
      | none => rw [if_pos (show fI none = (-1 : Int32) from rfl), if_pos ⟨rfl, rfl⟩]
  · rw [if_neg (show ¬ nI (so G j) = 4 from fun z => s ((so_eq (s := 4) (by omega)).mp z)), if_neg s, show f_X0_refuse (1 : Int32) c = _ from e_refuse C 1, ob_e]
theorem a89 {i : Nat} (h : i < 169) : ixb (nI i) (ln 89) := (ix_nI (by omega)).mpr (by rw [ln_89]; exact h)
theorem e_fresh {G : TX} {j to : Nat} {m : DD} {h nm} (X : VX G) (V : VH h) (M : MS G m j) (P : MP h nm m) (W : RW m) (hto : 7 ≤ to) (hto2 : to < 28) : (so G j = 4 → ff nm (va G j) (h 0) 0 = none ∧ ff (fun a => nm (3 + a)) (va G j) (h 1) 0 = none → ∃ m', f_X10_fresh (nI to) m = some ((1 : Int32), m') ∧ SK (u2 m 92 to (va G j)) m' ∧ MS G m' (j + 1)) ∧ (so G j = 4 → ¬ (ff nm (va G j) (h 0) 0 = none ∧ ff (fun a => nm (3 + a)) (va G j) (h 1) 0 = none) → f_X10_fresh (nI to) m = some ((0 : Int32), RB m 3 (pl G j))) ∧ (¬ so G j = 4 → f_X10_fresh (nI to) m = some ((0 : Int32), RB m 1 (pl G j))) := by
  have v0 := V.1
  have v1 := V.2.1
  have r0 : m.1 89 (0 : Int32).toNatClampNeg = nI (h 0) := P.1 0 (by omega)
  have r1 : m.1 89 (1 : Int32).toNatClampNeg = nI (h 1) := P.1 1 (by omega)
  have f0 : ff (fun k => m.2 92 (7 + k)) (va G j) (h 0) 0 = ff nm (va G j) (h 0) 0 := ff_congr (fun i _ hi => P.2.1 i (by omega))
  have f1 : ff (fun k => m.2 92 (10 + k)) (va G j) (h 1) 0 = ff (fun a => nm (3 + a)) (va G j) (h 1) 0 := ff_congr (fun i _ hi => P.2.2 i (by omega))
  have b43 : f_X10_fresh_43 m = some ((0 : Int32), RB m 3 (pl G j)) := by
    unfold f_X10_fresh_43
    rw [show f_X10_bad (3 : Int32) m = _ from e_bad M 3, ob_e]
    exact or01
  have x0 : ixb (0 : Int32) (ln 89) := a89 (i := 0) (by omega)
  have x1 : ixb (1 : Int32) (ln 89) := a89 (i := 1) (by omega)
  by_cases s : so G j = 4
  · have fk : f_X10_fresh (nI to) m = if fI (ff nm (va G j) (h 0) 0) < 0 then (if fI (ff (fun a => nm (3 + a)) (va G j) (h 1) 0) < 0 then (f_X10_skip (u2 m 92 to (va G j))).bind fun q6 => some ((1 : Int32), q6.2) else f_X10_fresh_43 m) else f_X10_fresh_43 m := by
      unfold f_X10_fresh
      rw [e_isName M W, ob_e]
      dsimp only
      rw [decide_eq_true s, if_neg (show ¬ bI true = 0 by decide), if_pos x0, r0, show f_X10_find (7 : Int32) (nI (h 0)) m = _ from e_find M (by omega) (fr := 7) (by omega), ob_e, f0]
      dsimp only
      rw [if_pos x1, r1, show f_X10_find (10 : Int32) (nI (h 1)) m = _ from e_find M (by omega) (fr := 10) (by omega), ob_e, f1]
      dsimp only
      rw [if_pos ((ix_nI (by omega)).mpr (by rw [ln_92]; omega)), nI_clamp (by omega), bd_e, show m.2 86 18 = va G j from M.2.2.2.2.2.1 (show 4 ≤ so G j by omega)]
    refine ⟨fun _ z => ?_, fun _ z => ?_, fun z => absurd s z⟩
    · obtain ⟨z1, z2⟩ := z
      have M1 : MS G (u2 m 92 to (va G j)) j := ms_keep M rfl (by funext i; rw [u2_at, if_neg (by omega)]) (fun _ _ => rfl)
      obtain ⟨m', e, S, M'⟩ := ms_next X M1 (by omega)
      refine ⟨m', ?_, S, M'⟩
      rw [fk, z1, z2, if_pos (by decide), if_pos (by decide), e, ob_e]
    · rw [fk, b43]
      cases q1 : ff nm (va G j) (h 0) 0 with
      | some a =>
        have := ff_lt q1
        rw [if_neg (show ¬ fI (some a) < 0 from nI_pos (by omega))]
      | none =>
        rw [if_pos (by decide)]
        cases q2 : ff (fun a => nm (3 + a)) (va G j) (h 1) 0 with
        | some a =>
          have := ff_lt q2
          rw [if_neg (show ¬ fI (some a) < 0 from nI_pos (by omega))]
        | none => exact absurd ⟨q1, q2⟩ z
  · refine ⟨fun z => absurd z s, fun z => absurd z s, fun _ => ?_⟩
    unfold f_X10_fresh
    rw [e_isName M W, ob_e]
    dsimp only
    rw [decide_eq_false s, if_pos (show bI false = 0 from rfl), show f_X10_bad (1 : Int32) m = _ from e_bad M 1, ob_e]
    exact or01
theorem e_tName {G : TX} {j : Nat} {m : DD} {h nm} (X : VX G) (V : VH h) (M : MS G m j) (P : MP h nm m) (W : RW m) : (so G j = 4 → ∀ a, ff (fun a => nm (3 + a)) (va G j) (h 1) 0 = some a → ∃ m', f_X10_takesName (10 : Int32) (nI (h 1)) m = some ((1 : Int32), m') ∧ KP m m' ∧ m'.1 86 19 = nI a ∧ MS G m' (j + 1)) ∧ (so G j = 4 → ff (fun a => nm (3 + a)) (va G j) (h 1) 0 = none → f_X10_takesName (10 : Int32) (nI (h 1)) m = some ((0 : Int32), RB (u1 m 86 19 mI) 3 (pl G j))) ∧ (¬ so G j = 4 → f_X10_takesName (10 : Int32) (nI (h 1)) m = some ((0 : Int32), RB m 1 (pl G j))) := by
  have v1 := V.2.1
  have f1 : ff (fun k => m.2 92 (10 + k)) (va G j) (h 1) 0 = ff (fun a => nm (3 + a)) (va G j) (h 1) 0 := ff_congr (fun i _ hi => P.2.2 i (by omega))
  by_cases s : so G j = 4
  · have fk : f_X10_takesName (10 : Int32) (nI (h 1)) m = bd (u1 m 86 19 (fI (ff (fun a => nm (3 + a)) (va G j) (h 1) 0))) fun d3 => if (d3.1 86 19) < 0 then (f_X10_bad (3 : Int32) d3).bind fun q5 => if q5.1 = 0 ∨ q5.1 = 1 then some (q5.1, q5.2) else none else (f_X10_skip d3).bind fun q4 => some ((1 : Int32), q4.2) := by
      unfold f_X10_takesName
      rw [e_isName M W, ob_e]
      dsimp only
      rw [decide_eq_true s, if_neg (show ¬ bI true = 0 by decide), show f_X10_find (10 : Int32) (nI (h 1)) m = _ from e_find M (by omega) (fr := 10) (by omega), ob_e, f1]
    refine ⟨fun _ a z => ?_, fun _ z => ?_, fun z => absurd s z⟩
    · have fl := ff_lt z
      obtain ⟨m', e, S, M'⟩ := ms_next X (ms_19 M (nI a)) (by omega)
      refine ⟨m', ?_, kp_trans (kp_19 m _) (kp_sk S), ?_, M'⟩
      · rw [fk, z, bd_e, show fI (some a) = nI a from rfl, show (u1 m 86 19 (nI a)).1 86 19 = nI a from by rw [u1_at, if_pos ⟨rfl, rfl⟩], if_neg (nI_pos (by omega)), e, ob_e]
      · rw [S.2 19 (by decide), u1_at, if_pos ⟨rfl, rfl⟩]
    · rw [fk, z, bd_e, show fI none = mI from rfl, show (u1 m 86 19 mI).1 86 19 = mI from by rw [u1_at, if_pos ⟨rfl, rfl⟩], if_pos (by decide), show f_X10_bad (3 : Int32) (u1 m 86 19 mI) = _ from e_bad (ms_19 M mI) 3, ob_e]
      exact or01
  · refine ⟨fun z => absurd z s, fun z => absurd z s, fun _ => ?_⟩
    unfold f_X10_takesName
    rw [e_isName M W, ob_e]
    dsimp only
    rw [decide_eq_false s, if_pos (show bI false = 0 from rfl), show f_X10_bad (1 : Int32) m = _ from e_bad M 1, ob_e]
    exact or01
theorem e_newHour {G : TX} {T j b a s : Nat} {c : DD} (C : CUR G T j c) (hb : ln b = 4) (hb2 : b ≠ 44) (hb3 : b ≠ 47) (ha : a < 4) (hs : s < 2 ^ 30) (e : c.1 b a = nI s) : f_X2_readNewHour b (nI a) c = if so G j = 3 then (if 0 ≤ dv G j ∧ dv G j ≤ 29 then (if s.testBit (dv G j) = true then some ((-1 : Int32), RF (u1 (nxc c j) 44 1 (nI j)) 3 (pl G j)) else some (nI (dv G j), u1 (nxc c j) b a (nI (s ||| 2 ^ dv G j)))) else some ((-1 : Int32), RF c 2 (pl G j))) else some ((-1 : Int32), RF c 1 (pl G j)) := by
  unfold f_X2_readNewHour
  rw [show f_X0_readNumber (0 : Int32) (29 : Int32) c = _ from e_readNumber C (lo := 0) (hi := 29) (by omega) (by omega)]
  by_cases s3 : so G j = 3
  · rw [if_pos s3, if_pos s3]
    by_cases d1 : 0 ≤ dv G j ∧ dv G j ≤ 29
    · have at1 : rd1 (nxc c j) b (nI a) = nI s := by rw [rd1_in (by rw [hb]; exact ha), nx_o (fun z => hb2 z.1)]; exact e
      rw [if_pos d1, if_pos d1, ob_e]
      dsimp only
      rw [if_neg (nI_nm (by omega)), e_X9_at, ob_e, at1]
      dsimp only
      by_cases tb : s.testBit (dv G j) = true
      · have C1 : CUR G T j (u1 (nxc c j) 44 1 (nI j)) := cur_keep C (by funext i; rw [u1_at, if_neg (by omega), nx_o (by omega)]) (by funext i; rw [u1_at, if_neg (by omega), nx_o (by omega)]) rfl (by rw [u1_at, if_pos ⟨rfl, rfl⟩]; exact C.2.1.symm)
        rw [if_pos (show iushr (nI s) (nI (dv G j)) &&& (1 : Int32) = 1 from (q_uhas (by omega) (by omega)).mpr tb), if_pos tb, show (nxc c j).1 44 1 = nI (j + 1) from by unfold nxc; rw [u1_at, if_pos ⟨rfl, rfl⟩], nI_pred, bd_e, show f_X0_refuse (3 : Int32) _ = _ from e_refuse C1 3, ob_e]
      · rw [if_neg (show ¬ iushr (nI s) (nI (dv G j)) &&& (1 : Int32) = 1 from fun z => tb ((q_uhas (by omega) (by omega)).mp z)), if_neg tb, show (1 : Int32) <<< (nI (dv G j) &&& 31) = nI (2 ^ dv G j) from q_shl (by omega), nx_or, e_X9_put, ob_e, wr1_in (by rw [hb]; exact ha)]
    · rw [if_neg d1, if_neg d1, ob_e, if_pos rfl]
  · rw [if_neg s3, if_neg s3, ob_e, if_pos rfl]
