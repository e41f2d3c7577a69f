-- PURE ROWS: the model's sums over its odometer
def sm {α : Type} (G : α → Nat) : List α → Nat
  | [] => 0
  | c :: l => G c + sm G l
theorem fl_len (p : Nat → Bool) : ∀ (m k : Nat), (fl p m k).length ≤ m
  | 0, _ => Nat.le_refl _
  | m + 1, k => by
    rw [fl_s]
    have := fl_len p m (k + 1)
    split
    · rw [List.length_cons]; omega
    · omega
theorem flat_len {α β : Type} (f : α → List β) (B : Nat) (hf : ∀ x, (f x).length ≤ B) : ∀ (l : List α), (l.flatMap f).length ≤ l.length * B
  | [] => by simp
  | x :: l => by
    rw [List.flatMap_cons, List.length_append, List.length_cons, Nat.succ_mul]
    have := hf x
    have := flat_len f B hf l
    omega
theorem cm_len {h : Nat → Nat} (V : VH h) : ∀ (a : Nat), (cm h a).length ≤ 8 ^ a
  | 0 => Nat.le_refl _
  | a + 1 => by
    have v0 := V.1
    unfold cm
    have h1 := flat_len (fun c => (wl h a).map (fun w => upN c a w)) 8 (fun c => by
      rw [List.length_map]
      have := fl_len (wb h a) (MW h) 0
      unfold MW at this
      unfold wl MW
      omega) (cm h a)
    have h2 := cm_len V a
    rw [Nat.pow_succ]
    exact Nat.le_trans h1 (Nat.mul_le_mul_right 8 h2)
theorem cm_cv {h : Nat → Nat} {c : Nat → Nat} (hc : c ∈ cm h (h 1)) : CV h c := fun a ha => by
  have := ((fl_mem _ _ _ _).mp (cm_lo (h 1) c hc a ha)).2.1
  unfold MW at this
  omega
theorem odo {α σ : Type} {h : Nat → Nat} {n : Nat} {d0 : DD} (V : VH h) (M : HM d0 h) (L : LT h n d0) (S : List Nat) (h96 : 96 ∉ S) (h88 : 88 ∉ S) (h94 : 94 ∉ S) (h95 : 95 ∉ S) (hS : ∀ a, a ∈ [97, 98] → a ∈ S) (Lp : Nat → σ → DD → Option (α × DD)) (ex : σ → DD → Option (α × DD)) (R : α → DD → Prop) (J : List (Nat → Nat) → σ → DD → Prop) (hst : ∀ f c l s d, CV h c → FR S d0 d → WD h c d → WE h n c d → J (c :: l) s d → (∀ s' d', FR S d0 d' → WD h c d' → (∀ d'', FR [97, 98] d' d'' → J l s' d'') → OW ((f_X10_nextWays d').bind fun q => if q.1 = 0 then ex s' q.2 else Lp f s' q.2) R) → OW (Lp (f + 1) s d) R) (hex : ∀ s d, FR S d0 d → J [] s d → OW (ex s d) R) : ∀ (l : List (Nat → Nat)) (c : Nat → Nat) (f : Nat) (s : σ) (d : DD), chx (nx h (h 1)) (c :: l) none → (∀ x, x ∈ c :: l → CV h x) → l.length < f → FR S d0 d → WD h c d → WE h n c d → J (c :: l) s d → OW (Lp f s d) R := by
  intro l
  induction l with
  | nil =>
    intro c f s d hch hcv hf F D E j
    cases f with
    | zero => omega
    | succ f =>
      have C := hcv c List.mem_cons_self
      refine hst f c [] s d C F D E j (fun s' d' F' D' j' => ?_)
      refine ow_call (e_X10_nextWays V (hm_fr M F' h88 h94 h95) (lt_fr L F' h96) C D') ?_
      intro r d'' H
      have e : nx h (h 1) c = none := hch
      rw [e] at H
      have er : r = nI 0 := H.2
      subst er
      show OW (if nI 0 = 0 then ex s' d'' else Lp f s' d'') R
      rw [if_pos (show nI 0 = 0 from rfl)]
      exact hex s' d'' (fr_trans F' (fr_mono H.1 hS)) (j' d'' H.1)
  | cons y l ih =>
    intro c f s d hch hcv hf F D E j
    cases f with
    | zero => rw [List.length_cons] at hf; omega
    | succ f =>
      have C := hcv c List.mem_cons_self
      refine hst f c (y :: l) s d C F D E j (fun s' d' F' D' j' => ?_)
      refine ow_call (e_X10_nextWays V (hm_fr M F' h88 h94 h95) (lt_fr L F' h96) C D') ?_
      intro r d'' H
      have e : nx h (h 1) c = some y := hch.1
      rw [e] at H
      have er : r = nI 1 ∧ WD h y d'' ∧ WE h n y d'' := H.2
      rw [er.1]
      show OW (if nI 1 = 0 then ex s' d'' else Lp f s' d'') R
      rw [if_neg (by decide)]
      rw [List.length_cons] at hf
      exact ih y f s' d'' hch.2 (fun x hx => hcv x (List.mem_cons_of_mem _ hx)) (by omega) (fr_trans F' (fr_mono H.1 hS)) er.2.1 er.2.2 (j' d'' H.1)
theorem pn_congr {F G : Nat → Nat} : ∀ {n : Nat}, (∀ k, k < n → F k = G k) → pn F n = pn G n
  | 0, _ => rfl
  | n + 1, h => by
    unfold pn
    rw [pn_congr (n := n) (fun k hk => h k (by omega)), h n (by omega)]
theorem pn_mul {F : Nat → Nat} {k B : Nat} : ∀ {n : Nat}, k < n → pn (fun j => if j = k then 1 else F j) n * B = pn (fun j => if j = k then B else F j) n
  | 0, h => absurd h (Nat.not_lt_zero _)
  | n + 1, h => by
    unfold pn
    by_cases e : k = n
    · subst e
      rw [if_pos rfl, if_pos rfl, Nat.mul_one, pn_congr (G := fun j => if j = k then B else F j)]
      intro j hj
      rw [if_neg (by omega), if_neg (by omega)]
    · rw [if_neg (fun z => e z.symm), if_neg (fun z => e z.symm), Nat.mul_right_comm, pn_mul (by omega)]
def PC (h : Nat → Nat) (n : Nat) (c : Nat → Nat) (F : Nat → Nat → Bool) (k : Nat) : Nat := cnt 64 (fun t => WM h n c k t && F k t)
def GS (h : Nat → Nat) (n : Nat) (F : Nat → Nat → Bool) : Nat := sm (fun c => pn (PC h n c F) (h 0)) (cm h (h 1))
def FT (_ _ : Nat) : Bool := true
theorem pc_ft (h : Nat → Nat) (n : Nat) (c : Nat → Nat) (k : Nat) : PC h n c FT k = WC h n c k := by
  unfold PC WC FT
  apply cnt_congr
  intro i _
  rw [Bool.and_true]
theorem wn_all {h : Nat → Nat} {d : DD} (V : VH h) (M : HM d h) {n : Nat} {c : Nat → Nat} (E : WE h n c d) : f_X10_worldsNow mI mI d = some (lN (pn (PC h n c FT) (h 0)), d) := by
  have v0 := V.1
  rw [e_X10_worldsNow V M E, pn_congr (G := PC h n c FT)]
  intro k hk
  rw [if_neg (by rw [nI_mI (by omega)]; simp), pc_ft]
theorem e_X10_worldsByL {h : Nat → Nat} {d : DD} (V : VH h) (M : HM d h) {n : Nat} (hn : n ≤ h 169) : OW (f_X10_worldsBy (nI n) d) (fun r d' => FR [96, 97, 98] d d' ∧ LT h n d' ∧ r = lN (GS h n FT)) := by
  have v1 := V.2.1
  unfold f_X10_worldsBy
  refine ow_call (e_X10_letAll V M hn) ?_
  intro _ d1 H1
  have M1 := hm_fr M H1.1 (by decide) (by decide) (by decide)
  refine ow_call (e_X10_firstWays V M1 H1.2) ?_
  intro _ d2 H2
  have M2 := hm_fr M1 H2.1 (by decide) (by decide) (by decide)
  have L2 := lt_fr H1.2 H2.1 (by decide)
  have F2 : FR [96, 97, 98] d d2 := fr_trans (fr_mono H1.1 (by decide)) (fr_mono H2.1 (by decide))
  obtain ⟨l, el⟩ := cm_head V (h 1) (Nat.le_refl _)
  have ch := cm_chx V (h 1) (Nat.le_refl _)
  have len := cm_len V (h 1)
  have l4 : 8 ^ h 1 ≤ 8 ^ 4 := Nat.pow_le_pow_right (by decide) v1
  have cv : ∀ x, x ∈ cm h (h 1) → CV h x := fun x hx => cm_cv hx
  rw [el] at ch len cv
  rw [List.length_cons] at len
  refine odo V M2 L2 [97, 98] (by decide) (by decide) (by decide) (by decide) (fun _ z => z) (fun f s d => f_X10_worldsBy_11 f s d) (fun s d => some (s, d)) _ (fun l s _ => ∃ a, s = lN a ∧ a + sm (fun c => pn (PC h n c FT) (h 0)) l = GS h n FT) ?_ ?_ l (fw h) FU (0 : Int64) d2 ch cv (by unfold FU; omega) (fr_refl _ _) H2.2.1 H2.2.2 ⟨0, rfl, ?_⟩
  · intro f c l s d' C F D E j K
    obtain ⟨a, rfl, ha⟩ := j
    show OW (f_X10_worldsBy_11B (f_X10_worldsBy_11 f) _ _) _
    unfold f_X10_worldsBy_11B
    simp only [bd_e, ob_e, ow_ret_e, u1_at, u1_2, u2_at, u2_1, ↓reduceIte, false_and, true_and, and_true, and_false, not_true_eq_false, not_false_eq_true, decide_true, decide_false, Bool.true_and, Bool.false_and, Bool.and_true, Bool.and_false, Bool.or_false, Bool.false_or, Bool.true_or, Bool.or_true, ↓mI_lit, wn_all V (hm_fr M2 F (by decide) (by decide) (by decide)) E, lN_add]
    refine K _ d' F D (fun d'' _ => ⟨_, rfl, ?_⟩)
    rw [← ha]
    show a + _ + _ = a + (_ + _)
    rw [Nat.add_assoc]
  · intro s d' F j
    obtain ⟨a, rfl, ha⟩ := j
    refine ow_ret ⟨fr_trans F2 (fr_mono F (by decide)), lt_fr L2 F (by decide), ?_⟩
    rw [← ha]
    rfl
  · unfold GS
    rw [el, Nat.zero_add]
theorem e_X10_worldsBy {h : Nat → Nat} {d : DD} (V : VH h) (M : HM d h) {n : Nat} (hn : n ≤ h 169) : OW (f_X10_worldsBy (nI n) d) (fun r d' => FR [96, 97, 98] d d' ∧ r = lN (GS h n FT)) := ow_mono (e_X10_worldsByL V M hn) (fun _ _ H => ⟨H.1, H.2.2⟩)
theorem e_X10_worldsIn {h : Nat → Nat} {d : DD} (V : VH h) (M : HM d h) {k : Nat} (hk : k < h 0) (S : Nat → Bool) : OW (f_X10_worldsIn (nI k) (mkL S) d) (fun r d' => FR [96, 97, 98] d d' ∧ r = lN (GS h (h 169) (fun j t => if j = k then S t else true))) := by
  have v0 := V.1
  have v1 := V.2.1
  have v2 := V.2.2.2.2.2.2.2.1
  unfold f_X10_worldsIn
  simp (disch := omega) only [bd_e, ob_e, ow_ret_e, u1_at, u1_2, u2_at, u2_1, ↓reduceIte, false_and, true_and, and_true, and_false, not_true_eq_false, not_false_eq_true, decide_true, decide_false, Bool.true_and, Bool.false_and, Bool.and_true, Bool.and_false, Bool.or_false, Bool.false_or, Bool.true_or, Bool.or_true, ↓mI_lit, ↓mL_lit, nI_lit, lN_lit, nI_add, pk_mul, lN_add, lN_mul, nI_ltI, nI_eq, nI_clamp, ix_nI, ix_mI, nI_mI, mI_nI, lN_mL, mL_lN, mI_lt, lt_mI, pI_mI, pI_nI, pI_eq, pI_lt0, pI_e, Nat.not_lt_zero, Nat.zero_add, Nat.add_zero, ix_T, lt_T, lt_F, eq_T, eq_F, ln_88, M.1]
  refine ow_call (e_X10_letAll V M (Nat.le_refl _)) ?_
  intro _ d1 H1
  have M1 := hm_fr M H1.1 (by decide) (by decide) (by decide)
  refine ow_call (e_X10_firstWays V M1 H1.2) ?_
  intro _ d2 H2
  have M2 := hm_fr M1 H2.1 (by decide) (by decide) (by decide)
  have L2 := lt_fr H1.2 H2.1 (by decide)
  have F2 : FR [96, 97, 98] d d2 := fr_trans (fr_mono H1.1 (by decide)) (fr_mono H2.1 (by decide))
  obtain ⟨l, el⟩ := cm_head V (h 1) (Nat.le_refl _)
  have ch := cm_chx V (h 1) (Nat.le_refl _)
  have len := cm_len V (h 1)
  have l4 : 8 ^ h 1 ≤ 8 ^ 4 := Nat.pow_le_pow_right (by decide) v1
  have cv : ∀ x, x ∈ cm h (h 1) → CV h x := fun x hx => cm_cv hx
  rw [el] at ch len cv
  rw [List.length_cons] at len
  refine odo V M2 L2 [97, 98] (by decide) (by decide) (by decide) (by decide) (fun _ z => z) (fun f s d => f_X10_worldsIn_19 f (nI k) (mkL S) s d) (fun s d => some (s, d)) _ (fun l s _ => ∃ a, s = lN a ∧ a + sm (fun c => pn (PC h (h 169) c (fun j t => if j = k then S t else true)) (h 0)) l = GS h (h 169) (fun j t => if j = k then S t else true)) ?_ ?_ l (fw h) FU (0 : Int64) d2 ch cv (by unfold FU; omega) (fr_refl _ _) H2.2.1 H2.2.2 ⟨0, rfl, ?_⟩
  · intro f c l s d' C F D E j K
    obtain ⟨a, rfl, ha⟩ := j
    show OW (f_X10_worldsIn_19B (f_X10_worldsIn_19 f) _ _ _ _) _
    unfold f_X10_worldsIn_19B
    have M' := hm_fr M2 F (by decide) (by decide) (by decide)
    have pe : pn (fun j => if nI j = nI k ∨ nI j = mI then 1 else WC h (h 169) c j) (h 0) * cnt 64 (fun t => WM h (h 169) c k t && S t) = pn (PC h (h 169) c (fun j t => if j = k then S t else true)) (h 0) := by
      rw [pn_congr (G := fun j => if j = k then 1 else WC h (h 169) c j), pn_mul hk]
      · apply pn_congr
        intro j hj
        unfold PC WC
        by_cases e : j = k
        · subst e
          rw [if_pos rfl]
          apply cnt_congr
          intro i _
          simp only [if_true]
        · rw [if_neg e]
          apply cnt_congr
          intro i _
          simp only [e, if_false, Bool.and_true]
      · intro j hj
        by_cases e : j = k
        · subst e
          rw [if_pos (Or.inl rfl), if_pos rfl]
        · rw [if_neg e, if_neg]
          rintro (z | z)
          · exact e ((nI_eq (by omega) (by omega)).mp z)
          · exact (nI_mI (by omega)).mp z
    have cl : cnt 64 (fun t => WM h (h 169) c k t && S t) ≤ 64 := cnt_le _ _
    simp (disch := omega) only [bd_e, ob_e, ow_ret_e, u1_at, u1_2, u2_at, u2_1, ↓reduceIte, false_and, true_and, and_true, and_false, not_true_eq_false, not_false_eq_true, decide_true, decide_false, Bool.true_and, Bool.false_and, Bool.and_true, Bool.and_false, Bool.or_false, Bool.false_or, Bool.true_or, Bool.or_true, ↓mI_lit, e_X10_worldsNow V M' E, ln_97, nI_clamp, E k hk, mk_and, e_X10_bitsm, nI_l, lN_mul, lN_add, ix_T, lt_T, lt_F, eq_T, eq_F, pe]
    refine K _ d' F D (fun d'' _ => ⟨_, rfl, ?_⟩)
    rw [← ha]
    show a + _ + _ = a + (_ + _)
    rw [Nat.add_assoc]
  · intro s d' F j
    obtain ⟨a, rfl, ha⟩ := j
    refine ow_ret ⟨fr_trans F2 (fr_mono F (by decide)), ?_⟩
    rw [← ha]
    rfl
  · unfold GS
    rw [el, Nat.zero_add]
def WY (h : Nat → Nat) (n a w : Nat) : Nat := sm (fun c => if c a = w then pn (PC h n c FT) (h 0) else 0) (cm h (h 1))
theorem e_X10_wo {h : Nat → Nat} {d : DD} (V : VH h) (M : HM d h) {a w : Nat} (ha : a < h 1) (hw : w < 2 + 2 * h 0) : OW ((f_X10_letAll (nI (h 169)) d).bind fun q4 => (f_X10_firstWays q4.2).bind fun q5 => f_X10_waysOf_53 FU (nI a) (nI w) (lN 0) q5.2) (fun r d' => FR [96, 97, 98] d d' ∧ r = lN (WY h (h 169) a w)) := by
  refine ow_call (e_X10_letAll V M (Nat.le_refl _)) ?_
  intro _ d1 H1
  have M1 := hm_fr M H1.1 (by decide) (by decide) (by decide)
  refine ow_call (e_X10_firstWays V M1 H1.2) ?_
  intro _ d2 H2
  have M2 := hm_fr M1 H2.1 (by decide) (by decide) (by decide)
  have L2 := lt_fr H1.2 H2.1 (by decide)
  have FF : FR [96, 97, 98] d d2 := fr_trans (fr_mono H1.1 (by decide)) (fr_mono H2.1 (by decide))
  have v0 := V.1
  have v1 := V.2.1
  obtain ⟨lx, el⟩ := cm_head V (h 1) (Nat.le_refl _)
  have ch := cm_chx V (h 1) (Nat.le_refl _)
  have len := cm_len V (h 1)
  have l4 : 8 ^ h 1 ≤ 8 ^ 4 := Nat.pow_le_pow_right (by decide) v1
  have cv : ∀ x, x ∈ cm h (h 1) → CV h x := fun x hx => cm_cv hx
  rw [el] at ch len cv
  rw [List.length_cons] at len
  refine odo V M2 L2 [97, 98] (by decide) (by decide) (by decide) (by decide) (fun _ z => z) (fun f s d => f_X10_waysOf_53 f (nI a) (nI w) s d) (fun s d => some (s, d)) _ (fun l s _ => ∃ b, s = lN b ∧ b + sm (fun c => if c a = w then pn (PC h (h 169) c FT) (h 0) else 0) l = WY h (h 169) a w) ?_ ?_ lx (fw h) FU (lN 0) d2 ch cv (by unfold FU; omega) (fr_refl _ _) H2.2.1 H2.2.2 ⟨0, rfl, ?_⟩
  · intro f c l s d' C F D E j K
    obtain ⟨b, rfl, hb⟩ := j
    show OW (f_X10_waysOf_53B (f_X10_waysOf_53 f) _ _ _ _) _
    unfold f_X10_waysOf_53B f_X10_waysOf_74
    have M' := hm_fr M2 F (by decide) (by decide) (by decide)
    have ca := C a ha
    simp (disch := omega) only [bd_e, ob_e, ow_ret_e, u1_at, u1_2, u2_at, u2_1, ↓reduceIte, false_and, true_and, and_true, and_false, not_true_eq_false, not_false_eq_true, decide_true, decide_false, Bool.true_and, Bool.false_and, Bool.and_true, Bool.and_false, Bool.or_false, Bool.false_or, Bool.true_or, Bool.or_true, ↓mI_lit, ln_98, nI_clamp, D a ha, nI_eq, wn_all V M' E, lN_add, lN_lit, ix_T, lt_T, lt_F, eq_T, eq_F]
    by_cases e : c a = w
    · rw [if_pos e]
      refine K _ d' F D (fun d'' _ => ⟨_, rfl, ?_⟩)
      rw [← hb]
      show _ = b + ((if c a = w then pn (PC h (h 169) c FT) (h 0) else 0) + _)
      rw [if_pos e, Nat.add_assoc]
    · rw [if_neg e]
      refine K _ d' F D (fun d'' _ => ⟨_, rfl, ?_⟩)
      rw [← hb]
      show _ = b + ((if c a = w then pn (PC h (h 169) c FT) (h 0) else 0) + _)
      rw [if_neg e, Nat.add_assoc]
  · intro s d' F j
    obtain ⟨b, rfl, hb⟩ := j
    refine ow_ret ⟨fr_trans FF (fr_mono F (by decide)), ?_⟩
    rw [← hb]
    rfl
  · unfold WY
    rw [el, Nat.zero_add]
theorem pn_mul2 {F : Nat → Nat} {k l A B n : Nat} (hk : k < n) (hl : l < n) (hkl : k ≠ l) : pn (fun j => if j = k ∨ j = l then 1 else F j) n * A * B = pn (fun j => if j = k then A else if j = l then B else F j) n := by
  have h1 := pn_mul (F := fun j => if j = l then 1 else F j) (B := A) hk
  have h2 := pn_mul (F := fun j => if j = k then A else F j) (B := B) hl
  rw [pn_congr (G := fun j => if j = k then 1 else if j = l then 1 else F j), h1, pn_congr (G := fun j => if j = l then 1 else if j = k then A else F j), h2]
  · apply pn_congr
    intro j _
    by_cases e1 : j = k
    · by_cases e2 : j = l
      · omega
      · simp only [e1, e2, if_true, if_false]
        rw [if_neg hkl]
    · by_cases e2 : j = l <;> simp [e1, e2, Ne.symm hkl]
  · intro j _
    by_cases e1 : j = k
    · rw [if_pos e1, if_neg (by omega), if_pos e1]
    · by_cases e2 : j = l <;> simp [e1, e2, Ne.symm hkl]
  · intro j _
    by_cases e1 : j = k
    · rw [if_pos (Or.inl e1), if_pos e1]
    · by_cases e2 : j = l <;> simp [e1, e2, Ne.symm hkl]
def F2 (k l : Nat) (S T : Nat → Bool) (j t : Nat) : Bool := if j = k then S t else if j = l then T t else true
theorem e_X10_bo {h : Nat → Nat} {d : DD} (V : VH h) (M : HM d h) {k l u : Nat} (hk : k < h 0) (hl : l < h 0) (hkl : k ≠ l) (hu : u < 30) : OW ((f_X10_letAll (nI (h 169)) d).bind fun q5 => (f_X10_firstWays q5.2).bind fun q6 => f_X10_both_68 FU (nI k) (nI l) (nI u) (lN 0) q6.2) (fun r d' => FR [96, 97, 98] d d' ∧ r = lN (GS h (h 169) (F2 k l (fun t => pb (h (2 + k)) (h (5 + k)) t u) (fun t => pb (h (2 + l)) (h (5 + l)) t u)))) := by
  refine ow_call (e_X10_letAll V M (Nat.le_refl _)) ?_
  intro _ d1 H1
  have M1 := hm_fr M H1.1 (by decide) (by decide) (by decide)
  refine ow_call (e_X10_firstWays V M1 H1.2) ?_
  intro _ d2 H2
  have M2 := hm_fr M1 H2.1 (by decide) (by decide) (by decide)
  have L2 := lt_fr H1.2 H2.1 (by decide)
  have FF : FR [96, 97, 98] d d2 := fr_trans (fr_mono H1.1 (by decide)) (fr_mono H2.1 (by decide))
  have v0 := V.1
  have v1 := V.2.1
  obtain ⟨lx, el⟩ := cm_head V (h 1) (Nat.le_refl _)
  have ch := cm_chx V (h 1) (Nat.le_refl _)
  have len := cm_len V (h 1)
  have l4 : 8 ^ h 1 ≤ 8 ^ 4 := Nat.pow_le_pow_right (by decide) v1
  have cv : ∀ x, x ∈ cm h (h 1) → CV h x := fun x hx => cm_cv hx
  rw [el] at ch len cv
  rw [List.length_cons] at len
  refine odo V M2 L2 [97, 98] (by decide) (by decide) (by decide) (by decide) (fun _ z => z) (fun f s d => f_X10_both_68 f (nI k) (nI l) (nI u) s d) (fun s d => some (s, d)) _ (fun l' s _ => ∃ b, s = lN b ∧ b + sm (fun c => pn (PC h (h 169) c (F2 k l (fun t => pb (h (2 + k)) (h (5 + k)) t u) (fun t => pb (h (2 + l)) (h (5 + l)) t u))) (h 0)) l' = GS h (h 169) (F2 k l (fun t => pb (h (2 + k)) (h (5 + k)) t u) (fun t => pb (h (2 + l)) (h (5 + l)) t u))) ?_ ?_ lx (fw h) FU (lN 0) d2 ch cv (by unfold FU; omega) (fr_refl _ _) H2.2.1 H2.2.2 ⟨0, rfl, ?_⟩
  · intro f c l' s d' C F D E j K
    obtain ⟨b, rfl, hb⟩ := j
    show OW (f_X10_both_68B (f_X10_both_68 f) _ _ _ _ _) _
    unfold f_X10_both_68B
    have M' := hm_fr M2 F (by decide) (by decide) (by decide)
    have cl : cnt 64 (fun t => WM h (h 169) c k t && pb (h (2 + k)) (h (5 + k)) t u) ≤ 64 := cnt_le _ _
    have cl2 : cnt 64 (fun t => WM h (h 169) c l t && pb (h (2 + l)) (h (5 + l)) t u) ≤ 64 := cnt_le _ _
    have pe : pn (fun j => if nI j = nI k ∨ nI j = nI l then 1 else WC h (h 169) c j) (h 0) * cnt 64 (fun t => WM h (h 169) c k t && pb (h (2 + k)) (h (5 + k)) t u) * cnt 64 (fun t => WM h (h 169) c l t && pb (h (2 + l)) (h (5 + l)) t u) = pn (PC h (h 169) c (F2 k l (fun t => pb (h (2 + k)) (h (5 + k)) t u) (fun t => pb (h (2 + l)) (h (5 + l)) t u))) (h 0) := by
      rw [pn_congr (G := fun j => if j = k ∨ j = l then 1 else WC h (h 169) c j), pn_mul2 hk hl hkl]
      · apply pn_congr
        intro j hj
        unfold PC WC F2
        by_cases e : j = k
        · subst e
          simp only [if_true]
        · by_cases e2 : j = l
          · subst e2
            simp only [e, if_true, if_false]
          · simp only [e, e2, if_false, Bool.and_true]
      · intro j hj
        simp (disch := omega) only [nI_eq]
    simp (disch := omega) only [bd_e, ob_e, ow_ret_e, u1_at, u1_2, u2_at, u2_1, ↓reduceIte, false_and, true_and, and_true, and_false, not_true_eq_false, not_false_eq_true, decide_true, decide_false, Bool.true_and, Bool.false_and, Bool.and_true, Bool.and_false, Bool.or_false, Bool.false_or, Bool.true_or, Bool.or_true, e_X10_worldsNow V M' E, ln_97, nI_clamp, E k hk, E l hl, e_X10_passing V M' hk hu, e_X10_passing V M' hl hu, mk_and, e_X10_bitsm, nI_l, lN_mul, lN_add, ix_T, lt_T, lt_F, eq_T, eq_F, pe]
    refine K _ d' F D (fun d'' _ => ⟨_, rfl, ?_⟩)
    rw [← hb]
    show b + _ + _ = b + (_ + _)
    rw [Nat.add_assoc]
  · intro s d' F j
    obtain ⟨b, rfl, hb⟩ := j
    refine ow_ret ⟨fr_trans FF (fr_mono F (by decide)), ?_⟩
    rw [← hb]
    rfl
  · unfold GS
    rw [el, Nat.zero_add]
