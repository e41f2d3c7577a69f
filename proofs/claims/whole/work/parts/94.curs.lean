-- PURE ROWS: the cursors: class and model
theorem srt_5 {v : Int64} : srt v = 5 ↔ v = (1802071652 : Int64) := by
  constructor
  · intro h
    unfold srt at h
    repeat' split at h
    all_goals first | assumption | omega
  · intro h
    subst h
    decide +kernel
theorem srt_6 {v : Int64} : srt v = 6 ↔ v = (25209 : Int64) := by
  constructor
  · intro h
    unfold srt at h
    repeat' split at h
    all_goals first | assumption | omega
  · intro h
    subst h
    decide +kernel
theorem srt_7 {v : Int64} : srt v = 7 ↔ v = (123581014175598 : Int64) := by
  constructor
  · intro h
    unfold srt at h
    repeat' split at h
    all_goals first | assumption | omega
  · intro h
    subst h
    decide +kernel
theorem srt_8 {v : Int64} : srt v = 8 ↔ v = (1953658213 : Int64) := by
  constructor
  · intro h
    unfold srt at h
    repeat' split at h
    all_goals first | assumption | omega
  · intro h
    subst h
    decide +kernel
theorem srt_9 {v : Int64} : srt v = 9 ↔ v = (1818326117 : Int64) := by
  constructor
  · intro h
    unfold srt at h
    repeat' split at h
    all_goals first | assumption | omega
  · intro h
    subst h
    decide +kernel
theorem srt_10 {v : Int64} : srt v = 10 ↔ v = (448444786035 : Int64) := by
  constructor
  · intro h
    unfold srt at h
    repeat' split at h
    all_goals first | assumption | omega
  · intro h
    subst h
    decide +kernel
theorem srt_11 {v : Int64} : srt v = 11 ↔ v = (1633969267 : Int64) := by
  constructor
  · intro h
    unfold srt at h
    repeat' split at h
    all_goals first | assumption | omega
  · intro h
    subst h
    decide +kernel
theorem srt_12 {v : Int64} : srt v = 12 ↔ v = (465726040947 : Int64) := by
  constructor
  · intro h
    unfold srt at h
    repeat' split at h
    all_goals first | assumption | omega
  · intro h
    subst h
    decide +kernel
theorem srt_13 {v : Int64} : srt v = 13 ↔ v = (1953854062 : Int64) := by
  constructor
  · intro h
    unfold srt at h
    repeat' split at h
    all_goals first | assumption | omega
  · intro h
    subst h
    decide +kernel
theorem srt_14 {v : Int64} : srt v = 14 ↔ v = (512735736947 : Int64) := by
  constructor
  · intro h
    unfold srt at h
    repeat' split at h
    all_goals first | assumption | omega
  · intro h
    subst h
    decide +kernel
theorem srt_n {v : Int64} : srt v = 4 ↔ ¬ v = (1802071652 : Int64) ∧ ¬ v = (25209 : Int64) ∧ ¬ v = (123581014175598 : Int64) ∧ ¬ v = (1953658213 : Int64) ∧ ¬ v = (1818326117 : Int64) ∧ ¬ v = (448444786035 : Int64) ∧ ¬ v = (1633969267 : Int64) ∧ ¬ v = (465726040947 : Int64) ∧ ¬ v = (1953854062 : Int64) ∧ ¬ v = (512735736947 : Int64) := by
  constructor
  · intro h
    refine ⟨fun z => absurd (srt_5.mpr z) (by omega), fun z => absurd (srt_6.mpr z) (by omega), fun z => absurd (srt_7.mpr z) (by omega), fun z => absurd (srt_8.mpr z) (by omega), fun z => absurd (srt_9.mpr z) (by omega), fun z => absurd (srt_10.mpr z) (by omega), fun z => absurd (srt_11.mpr z) (by omega), fun z => absurd (srt_12.mpr z) (by omega), fun z => absurd (srt_13.mpr z) (by omega), fun z => absurd (srt_14.mpr z) (by omega)⟩
  · rintro ⟨n5, n6, n7, n8, n9, n10, n11, n12, n13, n14⟩
    have c := srt_cs v
    have m5 : ¬ srt v = 5 := fun z => n5 (srt_5.mp z)
    have m6 : ¬ srt v = 6 := fun z => n6 (srt_6.mp z)
    have m7 : ¬ srt v = 7 := fun z => n7 (srt_7.mp z)
    have m8 : ¬ srt v = 8 := fun z => n8 (srt_8.mp z)
    have m9 : ¬ srt v = 9 := fun z => n9 (srt_9.mp z)
    have m10 : ¬ srt v = 10 := fun z => n10 (srt_10.mp z)
    have m11 : ¬ srt v = 11 := fun z => n11 (srt_11.mp z)
    have m12 : ¬ srt v = 12 := fun z => n12 (srt_12.mp z)
    have m13 : ¬ srt v = 13 := fun z => n13 (srt_13.mp z)
    have m14 : ¬ srt v = 14 := fun z => n14 (srt_14.mp z)
    omega
def CFR (c c' : DD) : Prop := ∀ a, a < 44 ∨ 71 < a → c'.1 a = c.1 a ∧ c'.2 a = c.2 a
theorem cfr_refl (c : DD) : CFR c c := fun _ _ => ⟨rfl, rfl⟩
theorem cfr_trans {c c' c'' : DD} (h : CFR c c') (g : CFR c' c'') : CFR c c'' := fun a ha => ⟨(g a ha).1.trans (h a ha).1, (g a ha).2.trans (h a ha).2⟩
theorem cfr_u1 {c c' : DD} {b i : Nat} {x : Int32} (h : CFR c c') (h1 : 44 ≤ b) (h2 : b ≤ 71) : CFR c (u1 c' b i x) := by
  intro a ha
  refine ⟨?_, (h a ha).2⟩
  rw [← (h a ha).1]
  funext j
  rw [u1_at, if_neg (by omega)]
theorem cfr_u2 {c c' : DD} {b i : Nat} {x : Int64} (h : CFR c c') (h1 : 44 ≤ b) (h2 : b ≤ 71) : CFR c (u2 c' b i x) := by
  intro a ha
  refine ⟨(h a ha).1, ?_⟩
  rw [← (h a ha).2]
  funext j
  rw [u2_at, if_neg (by omega)]
def MF (m m' : DD) : Prop := (∀ a, a ∉ [86, 89, 90, 91, 92] → m'.1 a = m.1 a ∧ m'.2 a = m.2 a) ∧ (∀ k, k < 7 → m'.2 92 k = m.2 92 k) ∧ ∀ q, q ∉ [4, 12, 13, 14, 15, 16, 17, 19, 20, 23] → m'.1 86 q = m.1 86 q
theorem mf_refl (m : DD) : MF m m := ⟨fun _ _ => ⟨rfl, rfl⟩, fun _ _ => rfl, fun _ _ => rfl⟩
theorem mf_trans {m m' m'' : DD} (h : MF m m') (g : MF m' m'') : MF m m'' := ⟨fun a ha => ⟨(g.1 a ha).1.trans (h.1 a ha).1, (g.1 a ha).2.trans (h.1 a ha).2⟩, fun k hk => (g.2.1 k hk).trans (h.2.1 k hk), fun q hq => (g.2.2 q hq).trans (h.2.2 q hq)⟩
theorem mf_sk {m m' : DD} (S : SK m m') : MF m m' := by
  refine ⟨fun a ha => S.1 a (fun z => ha (by rw [z]; decide)), fun k _ => by rw [(S.1 92 (by decide)).2], fun q hq => S.2 q (fun z => hq ?_)⟩
  simp only [List.mem_cons, List.not_mem_nil, or_false] at z ⊢
  omega
theorem mf_86 {m m' : DD} {q : Nat} {x : Int32} (h : MF m m') (hq : q ∈ [4, 12, 13, 14, 15, 16, 17, 19, 20, 23]) : MF m (u1 m' 86 q x) := by
  refine ⟨fun a ha => ⟨?_, (h.1 a ha).2⟩, h.2.1, fun i hi => ?_⟩
  · rw [← (h.1 a ha).1]
    funext i
    rw [u1_at, if_neg (fun z => ha (by rw [z.1]; decide))]
  · rw [u1_at, if_neg (fun z => hi (by rw [z.2]; exact hq))]
    exact h.2.2 i hi
theorem mf_u1 {m m' : DD} {b i : Nat} {x : Int32} (h : MF m m') (hb : b ∈ [89, 90, 91]) : MF m (u1 m' b i x) := by
  have h86 : b ≠ 86 := fun z => by rw [z] at hb; exact absurd hb (by decide)
  refine ⟨fun a ha => ⟨?_, (h.1 a ha).2⟩, h.2.1, fun j hj => ?_⟩
  · rw [← (h.1 a ha).1]
    funext j
    have : b ∈ [86, 89, 90, 91, 92] := by
      simp only [List.mem_cons, List.not_mem_nil, or_false] at hb ⊢
      omega
    rw [u1_at, if_neg (fun z => ha (by rw [z.1]; exact this))]
  · rw [u1_at, if_neg (fun z => h86 z.1.symm)]
    exact h.2.2 j hj
theorem mf_u2 {m m' : DD} {i : Nat} {x : Int64} (h : MF m m') (hi : 7 ≤ i) : MF m (u2 m' 92 i x) := by
  refine ⟨fun a ha => ⟨(h.1 a ha).1, ?_⟩, fun k hk => ?_, h.2.2⟩
  · rw [← (h.1 a ha).2]
    funext j
    rw [u2_at, if_neg (fun z => ha (by rw [z.1]; decide))]
  · rw [u2_at, if_neg (by omega)]
    exact h.2.1 k hk
-- the class's cursor
theorem e_sort {G : TX} {T j : Nat} {c : DD} (C : CUR G T j c) : f_X0_sort c = some (nI (so G j), c) := by
  obtain ⟨A, h1, hj, hT, _⟩ := C
  unfold f_X0_sort
  rw [h1, e_X9_at, ob_e, rd1_in (by rw [ln_46]; omega), (A j hj).1]
theorem e_value {G : TX} {T j : Nat} {c : DD} (C : CUR G T j c) : f_X0_value c = some (va G j, c) := by
  obtain ⟨A, h1, hj, hT, _⟩ := C
  unfold f_X0_value
  rw [h1, e_X9_longAt, ob_e, rd2_in (by rw [ln_48]; omega), (A j hj).2.2]
def RF (c : DD) (k p : Nat) : DD := u1 (u1 c 44 2 (nI k)) 44 3 (nI p)
def RB (m : DD) (k p : Nat) : DD := u1 (u1 m 86 16 (nI k)) 86 17 (nI p)
theorem e_refuse {G : TX} {T j : Nat} {c : DD} (C : CUR G T j c) (k : Nat) : f_X0_refuse (nI k) c = some ((-1 : Int32), RF c k (pl G j)) := by
  obtain ⟨A, h1, hj, hT, _⟩ := C
  have h1' : (u1 c 44 2 (nI k)).1 44 1 = nI j := by rw [u1_at, if_neg (by omega)]; exact h1
  unfold f_X0_refuse
  rw [bd_e, h1', e_X9_at, ob_e, rd1_in (by rw [ln_47]; omega)]
  dsimp only
  rw [bd_e, show (u1 c 44 2 (nI k)).1 47 j = nI (pl G j) from by rw [u1_at, if_neg (by omega)]; exact (A j hj).2.1]
  rfl
def nxc (c : DD) (j : Nat) : DD := u1 c 44 1 (nI (j + 1))
theorem cur_next {G : TX} {T j : Nat} {c : DD} (C : CUR G T j c) (h : 2 ≤ so G j) : CUR G T (j + 1) (nxc c j) := by
  obtain ⟨A, h1, hj, hT, hs⟩ := C
  have : j ≠ T := fun z => by rw [z] at h; omega
  refine ⟨fun i hi => ?_, ?_, by omega, hT, hs⟩
  · unfold nxc
    obtain ⟨a, b, e⟩ := A i hi
    refine ⟨?_, ?_, e⟩
    · rw [u1_at, if_neg (by omega)]; exact a
    · rw [u1_at, if_neg (by omega)]; exact b
  · unfold nxc
    rw [u1_at, if_pos ⟨rfl, rfl⟩]
theorem cur_keep {G : TX} {T j : Nat} {c c' : DD} (C : CUR G T j c) (e1 : c'.1 46 = c.1 46) (e2 : c'.1 47 = c.1 47) (e3 : c'.2 48 = c.2 48) (e4 : c'.1 44 1 = c.1 44 1) : CUR G T j c' := by
  unfold CUR at C ⊢
  rw [e1, e2, e3, e4]
  exact C
theorem e_ix {G : TX} {T j : Nat} {c : DD} (C : CUR G T j c) : u1 c 44 1 (c.1 44 1 + 1) = nxc c j := by
  rw [C.2.1, nI_1]
  rfl
theorem so_eq {G : TX} {j s : Nat} (hs : s < 1000) : nI (so G j) = nI s ↔ so G j = s := by
  have := qS_le G (pQ G j)
  exact nI_eq (show qS G (pQ G j) < 2 ^ 31 by omega) (by omega)
theorem e_semi {G : TX} {T j : Nat} {c : DD} (C : CUR G T j c) : f_X0_readSemicolon c = if so G j = 2 then some ((1 : Int32), nxc c j) else some ((0 : Int32), RF c 1 (pl G j)) := by
  unfold f_X0_readSemicolon
  rw [e_sort C, ob_e]
  dsimp only
  by_cases h : so G j = 2
  · rw [if_pos (show nI (so G j) = 2 by rw [h]; rfl), if_pos h, e_ix C, bd_e]
  · rw [if_neg (show ¬ nI (so G j) = 2 from fun z => h ((so_eq (s := 2) (by omega)).mp z)), if_neg h, show f_X0_refuse (1 : Int32) c = _ from e_refuse C 1, ob_e]
theorem lN_i32 : ∀ v, v < 100 → (lN v).toInt32 = nI v := by decide +kernel
theorem e_readNumber {G : TX} {T j : Nat} {c : DD} (C : CUR G T j c) {lo hi : Nat} (hlo : lo < 1000) (hhi : hi < 1000) : f_X0_readNumber (nI lo) (nI hi) c = if so G j = 3 then (if lo ≤ dv G j ∧ dv G j ≤ hi then some (nI (dv G j), nxc c j) else some ((-1 : Int32), RF c 2 (pl G j))) else some ((-1 : Int32), RF c 1 (pl G j)) := by
  unfold f_X0_readNumber
  rw [e_sort C, ob_e]
  dsimp only
  by_cases h : so G j = 3
  · have q := q3 (G := G) (q := pQ G j) h
    have v9 : dv G j ≤ 99 := q.2
    have ve : (va G j).toInt32 = nI (dv G j) := by
      show (qV G (pQ G j)).toInt32 = _
      rw [q.1]
      exact lN_i32 _ (by omega)
    have bad : f_X0_readNumber_30 c = some ((-1 : Int32), RF c 2 (pl G j)) := by
      unfold f_X0_readNumber_30
      rw [show f_X0_refuse (2 : Int32) c = _ from e_refuse C 2, ob_e]
    rw [if_pos (show nI (so G j) = 3 by rw [h]; rfl), if_pos h, e_value C, ob_e]
    dsimp only
    rw [ve]
    by_cases c1 : dv G j < lo
    · rw [if_pos ((nI_ltI (by omega) (by omega)).mpr c1), if_neg (by omega), bad]
    · rw [if_neg (fun z => c1 ((nI_ltI (by omega) (by omega)).mp z))]
      by_cases c2 : hi < dv G j
      · rw [if_pos ((nI_ltI (by omega) (by omega)).mpr c2), if_neg (by omega), bad]
      · rw [if_neg (fun z => c2 ((nI_ltI (by omega) (by omega)).mp z)), if_pos (by omega), e_ix C, bd_e]
  · rw [if_neg (show ¬ nI (so G j) = 3 from fun z => h ((so_eq (s := 3) (by omega)).mp z)), if_neg h, show f_X0_refuse (1 : Int32) c = _ from e_refuse C 1, ob_e]
def ff (nm : Nat → Int64) (v : Int64) : Nat → Nat → Option Nat
  | 0, _ => none
  | m + 1, k => if nm k = v then some k else ff nm v m (k + 1)
def fI : Option Nat → Int32
  | none => mI
  | some k => nI k
theorem ff_lt {nm : Nat → Int64} {v : Int64} : ∀ {m k r : Nat}, ff nm v m k = some r → k ≤ r ∧ r < k + m
  | 0, _, _, e => by cases e
  | m + 1, k, r, e => by
    unfold ff at e
    by_cases c : nm k = v
    · rw [if_pos c] at e
      injection e with e
      omega
    · rw [if_neg c] at e
      have := ff_lt e
      omega
theorem ff_congr {nm nm' : Nat → Int64} {v : Int64} : ∀ {m k : Nat}, (∀ i, k ≤ i → i < k + m → nm i = nm' i) → ff nm v m k = ff nm' v m k
  | 0, _, _ => rfl
  | m + 1, k, e => by
    unfold ff
    rw [e k (Nat.le_refl _) (by omega), ff_congr (m := m) (k := k + 1) (fun i h1 h2 => e i (by omega) (by omega))]
theorem ko_l {b : Nat} {c : DD} {h nm} (B : HB b) (V : VH h) (H : HC b c h nm) (v : Int64) : ∀ (m k f : Nat), k + m = h 0 → m < f → f_X1_kindOf_2 b f v (nI k) c = some (fI (ff nm v m k), c) := by
  have v0 := V.1
  intro m
  induction m with
  | zero =>
    intro k f hk hf
    cases f with
    | zero => omega
    | succ f =>
      show f_X1_kindOf_2B b (f_X1_kindOf_2 b f) _ _ _ = _
      unfold f_X1_kindOf_2B
      rw [hc_k H, if_neg (by rw [nI_ltI (by omega) (by omega)]; omega)]
      rfl
  | succ m ih =>
    intro k f hk hf
    cases f with
    | zero => omega
    | succ f =>
      show f_X1_kindOf_2B b (f_X1_kindOf_2 b f) _ _ _ = _
      unfold f_X1_kindOf_2B ff
      rw [hc_k H, if_pos (by rw [nI_ltI (by omega) (by omega)]; omega), e_X9_longAt, ob_e, hc_kn B V H (by omega)]
      dsimp only
      by_cases e : nm k = v
      · rw [if_pos e, if_pos e]
        rfl
      · rw [if_neg e, if_neg e, nI_1]
        exact ih (k + 1) f (by omega) (by omega)
theorem e_kindOf {b : Nat} {c : DD} {h nm} (B : HB b) (V : VH h) (H : HC b c h nm) (v : Int64) : f_X1_kindOf b v c = some (fI (ff nm v (h 0) 0), c) := ko_l B V H v (h 0) 0 FU (by omega) (by have := V.1; unfold FU; omega)
theorem po_l {b : Nat} {c : DD} {h nm} (B : HB b) (V : VH h) (H : HC b c h nm) (v : Int64) : ∀ (m k f : Nat), k + m = h 1 → m < f → f_X1_personOf_2 b f v (nI k) c = some (fI (ff (fun a => nm (3 + a)) v m k), c) := by
  have v0 := V.2.1
  intro m
  induction m with
  | zero =>
    intro k f hk hf
    cases f with
    | zero => omega
    | succ f =>
      show f_X1_personOf_2B b (f_X1_personOf_2 b f) _ _ _ = _
      unfold f_X1_personOf_2B
      rw [hc_p H, if_neg (by rw [nI_ltI (by omega) (by omega)]; omega)]
      rfl
  | succ m ih =>
    intro k f hk hf
    cases f with
    | zero => omega
    | succ f =>
      show f_X1_personOf_2B b (f_X1_personOf_2 b f) _ _ _ = _
      unfold f_X1_personOf_2B ff
      rw [hc_p H, if_pos (by rw [nI_ltI (by omega) (by omega)]; omega), e_X9_longAt, ob_e, hc_pn B V H (by omega)]
      dsimp only
      by_cases e : nm (3 + k) = v
      · rw [if_pos e, if_pos e]
        rfl
      · rw [if_neg e, if_neg e, nI_1]
        exact ih (k + 1) f (by omega) (by omega)
theorem e_personOf {b : Nat} {c : DD} {h nm} (B : HB b) (V : VH h) (H : HC b c h nm) (v : Int64) : f_X1_personOf b v c = some (fI (ff (fun a => nm (3 + a)) v (h 1) 0), c) := po_l B V H v (h 1) 0 FU (by omega) (by have := V.2.1; unfold FU; omega)
theorem fI_m {o : Option Nat} (h : ∀ r, o = some r → r < 1000) : fI o = (-1 : Int32) ↔ o = none := by
  cases o with
  | none => exact ⟨fun _ => rfl, fun _ => rfl⟩
  | some k =>
    have := h k rfl
    refine ⟨fun z => ?_, fun z => by cases z⟩
    exact absurd (show nI k = mI from z) (fun w => (nI_mI (by omega)).mp w)
theorem e_peekPerson {G : TX} {T j b : Nat} {c : DD} {h nm} (B : HB b) (V : VH h) (C : CUR G T j c) (H : HC b c h nm) : f_X0_peekPerson b c = if so G j = 4 then (match ff (fun a => nm (3 + a)) (va G j) (h 1) 0 with
    | some a => some (nI a, c)
    | none => some ((-1 : Int32), RF c 3 (pl G j))) else some ((-1 : Int32), RF c 1 (pl G j)) := by
  have v1 := V.2.1
  unfold f_X0_peekPerson
  rw [e_sort C, ob_e]
  dsimp only
  by_cases s : so G j = 4
  · rw [if_pos (show nI (so G j) = 4 by rw [s]; rfl), if_pos s, e_value C, ob_e]
    dsimp only
    rw [e_personOf B V H, ob_e]
    dsimp only
    cases q : ff (fun a => nm (3 + a)) (va G j) (h 1) 0 with
    | none =>
      rw [if_pos (show fI none = (-1 : Int32) from rfl), show f_X0_refuse (3 : Int32) c = _ from e_refuse C 3, ob_e]
    | some a =>
      have := ff_lt q
      rw [if_neg (show ¬ fI (some a) = (-1 : Int32) from fun z => (nI_mI (show a < 2 ^ 31 by omega)).mp z)]
      rfl
  · rw [if_neg (show ¬ nI (so G j) = 4 from fun z => s ((so_eq (s := 4) (by omega)).mp z)), if_neg s, show f_X0_refuse (1 : Int32) c = _ from e_refuse C 1, ob_e]
theorem e_peekKind {G : TX} {T j b : Nat} {c : DD} {h nm} (B : HB b) (V : VH h) (C : CUR G T j c) (H : HC b c h nm) : f_X0_peekKind b c = if so G j = 4 then (match ff nm (va G j) (h 0) 0 with
    | some a => some (nI a, c)
    | none => some ((-1 : Int32), RF c 3 (pl G j))) else some ((-1 : Int32), RF c 1 (pl G j)) := by
  have v1 := V.1
  unfold f_X0_peekKind
  rw [e_sort C, ob_e]
  dsimp only
  by_cases s : so G j = 4
  · rw [if_pos (show nI (so G j) = 4 by rw [s]; rfl), if_pos s, e_value C, ob_e]
    dsimp only
    rw [e_kindOf B V H, ob_e]
    dsimp only
    cases q : ff nm (va G j) (h 0) 0 with
    | none =>
      rw [if_pos (show fI none = (-1 : Int32) from rfl), show f_X0_refuse (3 : Int32) c = _ from e_refuse C 3, ob_e]
    | some a =>
      have := ff_lt q
      rw [if_neg (show ¬ fI (some a) = (-1 : Int32) from fun z => (nI_mI (show a < 2 ^ 31 by omega)).mp z)]
      rfl
  · rw [if_neg (show ¬ nI (so G j) = 4 from fun z => s ((so_eq (s := 4) (by omega)).mp z)), if_neg s, show f_X0_refuse (1 : Int32) c = _ from e_refuse C 1, ob_e]
theorem e_readPerson {G : TX} {T j b : Nat} {c : DD} {h nm} (B : HB b) (V : VH h) (C : CUR G T j c) (H : HC b c h nm) : f_X0_readPerson b c = if so G j = 4 then (match ff (fun a => nm (3 + a)) (va G j) (h 1) 0 with
    | some a => some (nI a, nxc c j)
    | none => some ((-1 : Int32), RF c 3 (pl G j))) else some ((-1 : Int32), RF c 1 (pl G j)) := by
  have v1 := V.2.1
  unfold f_X0_readPerson
  rw [e_peekPerson B V C H]
  by_cases s : so G j = 4
  · rw [if_pos s, if_pos s]
    cases q : ff (fun a => nm (3 + a)) (va G j) (h 1) 0 with
    | none =>
      dsimp only
      rw [ob_e, if_pos rfl]
    | some a =>
      have := ff_lt q
      dsimp only
      rw [ob_e, if_neg (show ¬ nI a = (-1 : Int32) from fun z => (nI_mI (show a < 2 ^ 31 by omega)).mp z)]
      dsimp only
      rw [e_ix C, bd_e]
  · rw [if_neg s, if_neg s, ob_e, if_pos rfl]
-- the model's
theorem or01 {α : Type} {x y : α} : (if (0 : Int32) = 0 ∨ (0 : Int32) = 1 then x else y) = x := if_pos (Or.inl rfl)
theorem or11 {α : Type} {x y : α} : (if (1 : Int32) = 0 ∨ (1 : Int32) = 1 then x else y) = x := if_pos (Or.inr rfl)
theorem e_bad {G : TX} {j : Nat} {m : DD} (M : MS G m j) (k : Nat) : f_X10_bad (nI k) m = some ((0 : Int32), RB m k (pl G j)) := by
  unfold f_X10_bad
  rw [bd_e, show (u1 m 86 16 (nI k)).1 86 13 = nI (pl G j) from by rw [u1_at, if_neg (by omega)]; exact M.2.2.1, bd_e]
  rfl
theorem mc_eq {s t : Nat} (hs : s ≤ 14) (ht : t < 1000) : nI (mc s) = nI t ↔ mc s = t := by
  have : mc s ≤ 4 := by unfold mc; repeat' split
                        all_goals omega
  exact nI_eq (by omega) (by omega)
theorem mc_w {s : Nat} : mc s = 1 ↔ 4 ≤ s := by
  unfold mc
  repeat' split
  all_goals omega
theorem mc_n {s : Nat} : mc s = 2 ↔ s = 3 := by
  unfold mc
  repeat' split
  all_goals omega
theorem mc_s {s : Nat} : mc s = 3 ↔ s = 2 := by
  unfold mc
  repeat' split
  all_goals omega
theorem mc_z {s : Nat} : mc s = 0 ↔ s = 0 := by
  unfold mc
  repeat' split
  all_goals omega
theorem ms_w {G : TX} {j : Nat} {m : DD} (M : MS G m j) : m.1 86 12 = (1 : Int32) ↔ 4 ≤ so G j := by
  rw [M.2.1, show (1 : Int32) = nI 1 from rfl, mc_eq (qS_le _ _) (by omega), mc_w]
  exact Iff.rfl
theorem ms_n {G : TX} {j : Nat} {m : DD} (M : MS G m j) : m.1 86 12 = (2 : Int32) ↔ so G j = 3 := by
  rw [M.2.1, show (2 : Int32) = nI 2 from rfl, mc_eq (qS_le _ _) (by omega), mc_n]
  exact Iff.rfl
theorem ms_s {G : TX} {j : Nat} {m : DD} (M : MS G m j) : m.1 86 12 = (3 : Int32) ↔ so G j = 2 := by
  rw [M.2.1, show (3 : Int32) = nI 3 from rfl, mc_eq (qS_le _ _) (by omega), mc_s]
  exact Iff.rfl
theorem ms_z {G : TX} {j : Nat} {m : DD} (M : MS G m j) : m.1 86 12 = (0 : Int32) ↔ so G j = 0 := by
  rw [M.2.1, show (0 : Int32) = nI 0 from rfl, mc_eq (qS_le _ _) (by omega), mc_z]
  exact Iff.rfl
theorem e_isWord {G : TX} {j : Nat} {m : DD} (M : MS G m j) {w : Int64} {s : Nat} (h4 : 4 ≤ s) (hw : ∀ v, srt v = s ↔ v = w) : f_X10_isWord w m = some (bI (decide (so G j = s)), m) := by
  unfold f_X10_isWord
  by_cases c : 4 ≤ so G j
  · have e1 : so G j = srt (va G j) := q4 (G := G) (q := pQ G j) c
    have e2 : m.2 86 18 = va G j := M.2.2.2.2.2.1 c
    rw [if_pos ((ms_w M).mpr c), e2]
    by_cases c2 : va G j = w
    · rw [if_pos c2, decide_eq_true (by rw [e1]; exact (hw _).mpr c2)]
      rfl
    · rw [if_neg c2, decide_eq_false (by rw [e1]; exact fun z => c2 ((hw _).mp z))]
      rfl
  · rw [if_neg (fun z => c ((ms_w M).mp z)), decide_eq_false (by omega)]
    rfl
theorem e_isSign {G : TX} {j : Nat} {m : DD} (M : MS G m j) : f_X10_isSign (59 : Int32) m = some (bI (decide (so G j = 2)), m) := by
  unfold f_X10_isSign
  by_cases c : so G j = 2
  · rw [if_pos ((ms_s M).mpr c), M.2.2.2.1 c, if_pos (show nI 59 = (59 : Int32) from rfl), decide_eq_true c]
    rfl
  · rw [if_neg (fun z => c ((ms_s M).mp z)), decide_eq_false c]
    rfl
theorem e_sign {G : TX} {j : Nat} {m : DD} (X : VX G) (M : MS G m j) : (so G j = 2 → ∃ m', f_X10_sign (59 : Int32) m = some ((1 : Int32), m') ∧ SK m m' ∧ MS G m' (j + 1)) ∧ (¬ so G j = 2 → f_X10_sign (59 : Int32) m = some ((0 : Int32), RB m 1 (pl G j))) := by
  unfold f_X10_sign
  rw [e_isSign M, ob_e]
  dsimp only
  constructor
  · intro c
    obtain ⟨m', e, S, M'⟩ := ms_next X M (by omega)
    refine ⟨m', ?_, S, M'⟩
    rw [decide_eq_true c, if_neg (show ¬ bI true = 0 by decide), e, ob_e]
  · intro c
    rw [decide_eq_false c, if_pos (show bI false = 0 from rfl), show (1 : Int32) = nI 1 from rfl, e_bad M, ob_e]
    exact or01
def nres (r : Nat → Int64) (v : Int64) : Nat → Nat → Bool
  | 0, _ => true
  | n + 1, k => !(decide (v = r k)) && nres r v n (k + 1)
theorem in_l {m : DD} : ∀ (n k f : Nat) (b : Bool), k + n = 10 → n < f → f_X10_isName_16 f (bI b) (nI k) m = some (bI (b && nres (m.2 93) (m.2 86 18) n k), m) := by
  intro n
  induction n with
  | zero =>
    intro k f b hk hf
    obtain ⟨f, rfl⟩ : ∃ f', f = f' + 1 := ⟨f - 1, by omega⟩
    show f_X10_isName_16B (f_X10_isName_16 f) _ _ _ = _
    unfold f_X10_isName_16B
    rw [if_neg (show ¬ nI k < (10 : Int32) from fun z => by have := (nI_ltI (b := 10) (by omega) (by omega)).mp z; omega)]
    show _ = some (bI (b && true), m)
    rw [Bool.and_true]
    cases b
    · exact if_pos (Or.inl rfl)
    · exact if_pos (Or.inr rfl)
  | succ n ih =>
    intro k f b hk hf
    obtain ⟨f, rfl⟩ : ∃ f', f = f' + 1 := ⟨f - 1, by omega⟩
    show f_X10_isName_16B (f_X10_isName_16 f) _ _ _ = some (bI (b && (!(decide (m.2 86 18 = m.2 93 k)) && nres (m.2 93) (m.2 86 18) n (k + 1))), m)
    unfold f_X10_isName_16B
    have i93 : ixb (nI k) (ln 93) := (ix_nI (by omega)).mpr (by rw [ln_93]; omega)
    rw [if_pos (show nI k < (10 : Int32) from (nI_ltI (b := 10) (by omega) (by omega)).mpr (by omega)), nI_1]
    cases b
    · rw [if_pos (show bI false = 0 from rfl)]
      exact ih (k + 1) f false (by omega) (by omega)
    · rw [if_neg (show ¬ bI true = 0 by decide), if_pos i93, nI_clamp (by omega)]
      by_cases c : m.2 86 18 = m.2 93 k
      · rw [if_pos c, decide_eq_true c]
        exact ih (k + 1) f false (by omega) (by omega)
      · rw [if_neg c, decide_eq_false c]
        exact ih (k + 1) f true (by omega) (by omega)
theorem nres_s {m : DD} (R : RW m) (v : Int64) : nres (m.2 93) v 10 0 = decide (srt v = 4) := by
  obtain ⟨r0, r1, r2, r3, r4, r5, r6, r7, r8, r9⟩ := R
  have e : nres (m.2 93) v 10 0 = (!(decide (v = m.2 93 0)) && (!(decide (v = m.2 93 1)) && (!(decide (v = m.2 93 2)) && (!(decide (v = m.2 93 3)) && (!(decide (v = m.2 93 4)) && (!(decide (v = m.2 93 5)) && (!(decide (v = m.2 93 6)) && (!(decide (v = m.2 93 7)) && (!(decide (v = m.2 93 8)) && (!(decide (v = m.2 93 9)) && true)))))))))) := rfl
  rw [e, r0, r1, r2, r3, r4, r5, r6, r7, r8, r9, Bool.eq_iff_iff, decide_eq_true_iff, srt_n]
  simp only [Bool.and_eq_true, Bool.not_eq_true', decide_eq_false_iff_not, and_true]
  exact Iff.rfl
theorem e_isName {G : TX} {j : Nat} {m : DD} (M : MS G m j) (R : RW m) : f_X10_isName m = some (bI (decide (so G j = 4)), m) := by
  unfold f_X10_isName
  by_cases c : 4 ≤ so G j
  · have e1 : so G j = srt (va G j) := q4 (G := G) (q := pQ G j) c
    have e2 : m.2 86 18 = va G j := M.2.2.2.2.2.1 c
    have q := in_l (m := m) 10 0 FU true (by omega) (by unfold FU; omega)
    rw [nres_s R, e2, ← e1, Bool.true_and] at q
    rw [if_pos ((ms_w M).mpr c)]
    exact q
  · have q := in_l (m := m) 10 0 FU false (by omega) (by unfold FU; omega)
    rw [Bool.false_and] at q
    rw [if_neg (fun z => c ((ms_w M).mp z)), decide_eq_false (by omega)]
    exact q
theorem fd_l {m : DD} {fr many : Nat} (h : fr + many ≤ 28) : ∀ (n k f : Nat), k + n = many → n < f → f_X10_find_2 f (nI fr) (nI many) (nI k) m = some (fI (ff (fun k => m.2 92 (fr + k)) (m.2 86 18) n k), m) := by
  intro n
  induction n with
  | zero =>
    intro k f hk hf
    obtain ⟨f, rfl⟩ : ∃ f', f = f' + 1 := ⟨f - 1, by omega⟩
    show f_X10_find_2B (f_X10_find_2 f) _ _ _ _ = _
    unfold f_X10_find_2B
    rw [if_neg (by rw [nI_ltI (by omega) (by omega)]; omega)]
    rfl
  | succ n ih =>
    intro k f hk hf
    obtain ⟨f, rfl⟩ : ∃ f', f = f' + 1 := ⟨f - 1, by omega⟩
    show f_X10_find_2B (f_X10_find_2 f) _ _ _ _ = _
    unfold f_X10_find_2B ff
    rw [if_pos (by rw [nI_ltI (by omega) (by omega)]; omega), nI_add, if_pos ((ix_nI (by omega)).mpr (by rw [ln_92]; omega)), nI_clamp (by omega)]
    by_cases e : m.2 92 (fr + k) = m.2 86 18
    · rw [if_pos e, if_pos e]
      rfl
    · rw [if_neg e, if_neg e, nI_1]
      exact ih (k + 1) f (by omega) (by omega)
theorem e_find {G : TX} {j : Nat} {m : DD} (M : MS G m j) (h4 : 4 ≤ so G j) {fr many : Nat} (h : fr + many ≤ 28) : f_X10_find (nI fr) (nI many) m = some (fI (ff (fun k => m.2 92 (fr + k)) (va G j) many 0), m) := by
  have q := fd_l (m := m) h many 0 FU (by omega) (by unfold FU; omega)
  rw [show m.2 86 18 = va G j from M.2.2.2.2.2.1 h4] at q
  exact q
theorem fI_0 {o : Option Nat} (h : ∀ r, o = some r → r < 1000) : fI o < (0 : Int32) ↔ o = none := by
  cases o with
  | none => exact ⟨fun _ => rfl, fun _ => (by decide : mI < (0 : Int32))⟩
  | some k =>
    have := h k rfl
    exact ⟨fun z => absurd z (nI_pos (by omega)), fun z => by cases z⟩
theorem e_isIn {v lo hi : Nat} (hv : v < 1000) (hlo : lo < 1000) (hhi : hi < 1000) (d : DD) : f_X10_isIn (nI v) (nI lo) (nI hi) d = some (bI (decide (lo ≤ v ∧ v ≤ hi)), d) := by
  unfold f_X10_isIn
  by_cases c1 : v < lo
  · rw [if_pos ((nI_ltI (by omega) (by omega)).mpr c1), decide_eq_false (by omega)]
    rfl
  · rw [if_neg (fun z => c1 ((nI_ltI (by omega) (by omega)).mp z))]
    by_cases c2 : hi < v
    · rw [if_pos ((nI_ltI (by omega) (by omega)).mpr c2), decide_eq_false (by omega)]
      rfl
    · rw [if_neg (fun z => c2 ((nI_ltI (by omega) (by omega)).mp z)), decide_eq_true (by omega)]
      rfl
theorem ms_dv {G : TX} {j : Nat} {m : DD} (M : MS G m j) (h : so G j = 3) : m.1 86 15 = nI (dv G j) ∧ dv G j ≤ 99 := ⟨M.2.2.2.2.1 h, (q3 (G := G) (q := pQ G j) h).2⟩
theorem e_takes {G : TX} {j : Nat} {m : DD} (X : VX G) (M : MS G m j) {lo hi : Nat} (hlo : lo < 1000) (hhi : hi < 1000) : (so G j = 3 → lo ≤ dv G j ∧ dv G j ≤ hi → ∃ m', f_X10_takes (nI lo) (nI hi) m = some ((1 : Int32), m') ∧ MF m m' ∧ (∀ a, a ≠ 86 → m'.1 a = m.1 a ∧ m'.2 a = m.2 a) ∧ (∀ q, q ∈ [16, 20, 23] → m'.1 86 q = m.1 86 q) ∧ m'.1 86 19 = nI (dv G j) ∧ MS G m' (j + 1)) ∧ (so G j = 3 → ¬ (lo ≤ dv G j ∧ dv G j ≤ hi) → f_X10_takes (nI lo) (nI hi) m = some ((0 : Int32), RB m 2 (pl G j))) ∧ (¬ so G j = 3 → f_X10_takes (nI lo) (nI hi) m = some ((0 : Int32), RB m 1 (pl G j))) := by
  refine ⟨fun c ci => ?_, fun c ci => ?_, fun c => ?_⟩
  · obtain ⟨e15, l99⟩ := ms_dv M c
    have M1 : MS G (u1 m 86 19 (nI (dv G j))) j := ms_keep M (by funext i; rw [u1_at, if_neg (by omega)]) rfl (fun i hi => by rw [u1_at, if_neg (fun z => by rw [z.2] at hi; exact absurd hi (by decide))])
    obtain ⟨m', e, S, M'⟩ := ms_next X M1 (by omega)
    refine ⟨m', ?_, mf_trans (mf_86 (mf_refl m) (by decide)) (mf_sk S), fun a ha => ?_, fun q hq => ?_, ?_, M'⟩
    · unfold f_X10_takes
      rw [if_pos ((ms_n M).mpr c), e15, e_isIn (by omega) hlo hhi, ob_e]
      dsimp only
      rw [decide_eq_true ci, if_neg (show ¬ bI true = 0 by decide), bd_e, e15, e, ob_e]
    · refine ⟨?_, ?_⟩
      · rw [(S.1 a ha).1]
        funext i
        rw [u1_at, if_neg (fun z => ha z.1)]
      · rw [(S.1 a ha).2]
        rfl
    · have n4 : q ∉ [4, 12, 13, 14, 15] := by
        simp only [List.mem_cons, List.not_mem_nil, or_false] at hq ⊢
        omega
      simp only [List.mem_cons, List.not_mem_nil, or_false] at hq
      rw [S.2 q n4, u1_at, if_neg (by omega)]
    · rw [S.2 19 (by decide), u1_at, if_pos ⟨rfl, rfl⟩]
  · obtain ⟨e15, l99⟩ := ms_dv M c
    unfold f_X10_takes
    rw [if_pos ((ms_n M).mpr c), e15, e_isIn (by omega) hlo hhi, ob_e]
    dsimp only
    rw [decide_eq_false ci, if_pos (show bI false = 0 from rfl), show (2 : Int32) = nI 2 from rfl, e_bad M, ob_e]
    exact or01
  · unfold f_X10_takes
    rw [if_neg (fun z => c ((ms_n M).mp z)), show (1 : Int32) = nI 1 from rfl, e_bad M, ob_e]
    exact or01
-- a fault, told alike
def FLT (c0 m0 c m : DD) : Prop := CFR c0 c ∧ MF m0 m ∧ ∃ k p, p ≤ 940 ∧ c.1 44 2 = nI k ∧ c.1 44 3 = nI p ∧ m.1 86 16 = nI k ∧ m.1 86 17 = nI p
theorem flt {G : TX} {c0 m0 c m : DD} {j : Nat} (X : VX G) (C : CFR c0 c) (M : MF m0 m) (k : Nat) : FLT c0 m0 (RF c k (pl G j)) (RB m k (pl G j)) := by
  refine ⟨cfr_u1 (cfr_u1 C (by omega) (by omega)) (by omega) (by omega), mf_86 (mf_86 M (by decide)) (by decide), k, pl G j, qP_le X _, ?_, ?_, ?_, ?_⟩
  · unfold RF
    rw [u1_at, if_neg (by omega), u1_at, if_pos ⟨rfl, rfl⟩]
  · unfold RF
    rw [u1_at, if_pos ⟨rfl, rfl⟩]
  · unfold RB
    rw [u1_at, if_neg (by omega), u1_at, if_pos ⟨rfl, rfl⟩]
  · unfold RB
    rw [u1_at, if_pos ⟨rfl, rfl⟩]
