-- PURE ROWS: drawn: the model's side, the whole
def tBM (x y : Int32) : Int32 := if (1 : Int32) < x then (if (x - x / (2 : Int32) * (2 : Int32)) = 0 then y &&& (((1 : Int32) <<< (((x - (2 : Int32)) / (2 : Int32)) &&& 31)) ^^^ (-1 : Int32)) else y ||| ((1 : Int32) <<< (((x - (2 : Int32)) / (2 : Int32)) &&& 31))) else y
theorem tBM_c : ∀ w, w < 8 → ∀ s, s < 8 → tBM (nI w) (nI s) = nI (tB w s) := by decide +kernel
theorem of_dec {h : Nat → Nat} (V : VH h) (T : ∀ k, k < h 0 → 1 ≤ h (8 + k)) {w u : Nat} (hu : u < 30) : ((if w = 1 then pI u else nI u) = mI ∧ ∀ k, k < h 0 → Tr h w u k = false) ∨ ∃ v, v < 30 ∧ (if w = 1 then pI u else nI u) = nI v ∧ ∀ k, k < h 0 → Tr h w u k = pa (h (2 + k)) (h (8 + k) - 1) v := by
  have pbe : ∀ k, k < h 0 → ∀ v, pb (h (2 + k)) (h (5 + k)) (h (8 + k) - 1) v = pa (h (2 + k)) (h (8 + k) - 1) v := by
    intro k hk v
    have q := V.2.2.1 k hk
    have tk := T k hk
    unfold pb
    rw [decide_eq_true (show h (8 + k) - 1 < tn (h (2 + k)) (h (5 + k)) by omega), Bool.true_and]
  by_cases c : w = 1
  · by_cases c2 : u = 0
    · left
      rw [if_pos c, c2]
      refine ⟨pI_0, fun k hk => ?_⟩
      unfold Tr Fw pbu
      rw [if_pos c]
      rfl
    · right
      refine ⟨u - 1, by omega, by rw [if_pos c, pI_pos (by omega)], fun k hk => ?_⟩
      unfold Tr Fw pbu
      rw [if_pos c, decide_eq_true (show 1 ≤ u by omega), Bool.true_and]
      exact pbe k hk _
  · right
    refine ⟨u, hu, if_neg c, fun k hk => ?_⟩
    unfold Tr Fw
    rw [if_neg c]
    exact pbe k hk _
theorem or_z (x : Int32) : x ||| (0 : Int32) = x := by
  apply Int32.toBitVec_inj.mp
  rw [Int32.toBitVec_or]
  exact BitVec.or_zero
theorem m207_l {h : Nat → Nat} {d : DD} (V : VH h) (M : HM d h) (T : ∀ k, k < h 0 → 1 ≤ h (8 + k)) {w u : Nat} (hw : w < 8) (hu : u < 30) (K : Int32 → Int32 → DD → Option (Int32 × DD)) (v1 v4 v5 v6 : Int32) : ∀ (m k f : Nat), k + m = h 0 → m < f → f_X10_drawn_207 K f v1 v4 v5 v6 (nI w) (if w = 1 then pI u else nI u) (nI (mkN k (Tr h w u))) (nI k) d = f_X10_drawn_309 K v1 v4 v5 v6 (nI (tB w (mkN (h 0) (Tr h w u)))) d := by
  have v0 := V.1
  have r0 : d.1 88 (0 : Int32).toNatClampNeg = nI (h 0) := M.1 0
  have od := of_dec V T (w := w) hu
  generalize (if w = 1 then pI u else nI u) = v8 at od ⊢
  intro m
  induction m with
  | zero =>
    intro k f hk hf
    cases f with
    | zero => omega
    | succ f =>
      have e : k = h 0 := by omega
      subst e
      have l := mkN_lt (h 0) (Tr h w u)
      have p8 := p28 v0
      rw [← tBM_c w hw _ (by omega)]
      show f_X10_drawn_207B K (f_X10_drawn_207 K f) _ _ _ _ _ _ _ _ _ = _
      unfold f_X10_drawn_207B tBM
      rw [if_pos (by rw [ln_88]; decide), r0, if_neg (by rw [nI_ltI (by omega) (by omega)]; omega)]
      by_cases c : (1 : Int32) < nI w
      · rw [if_pos c, if_pos c]
        by_cases c2 : nI w - nI w / (2 : Int32) * (2 : Int32) = 0
        · rw [if_pos c2, if_pos c2]; rfl
        · rw [if_neg c2, if_neg c2]; rfl
      · rw [if_neg c, if_neg c]
  | succ m ih =>
    intro k f hk hf
    cases f with
    | zero => omega
    | succ f =>
      have s := ih (k + 1) f (by omega) (by omega)
      have hk' : k < h 0 := by omega
      rw [mkN] at s
      show f_X10_drawn_207B K (f_X10_drawn_207 K f) _ _ _ _ _ _ _ _ _ = _
      unfold f_X10_drawn_207B
      rw [if_pos (by rw [ln_88]; decide), r0, if_pos (by rw [nI_ltI (by omega) (by omega)]; exact hk')]
      rcases od with ⟨e8, z⟩ | ⟨v, hv, e8, z⟩
      · rw [z k hk', if_neg (by decide), Nat.add_zero] at s
        rw [if_pos (by rw [e8]; decide), bd_e, or_z, nI_1]
        exact s
      · have q := V.2.2.1 k hk'
        have tk := T k hk'
        have tle := tn_le (lo := h (2 + k)) q.2.2.1
        have rd : d.1 94 (36 * k + (h (8 + k) - 1)) = nI (mkN 30 (fun u => pa (h (2 + k)) (h (8 + k) - 1) u)) := M.2.2 k _ hk' (by omega)
        have hm : mkN 30 (fun u => pa (h (2 + k)) (h (8 + k) - 1) u) < 2 ^ 30 := mkN_lt _ _
        have ix : (36 : Int32) * nI k + nI (h (8 + k) - 1) = nI (36 * k + (h (8 + k) - 1)) := by
          rw [show (36 : Int32) = nI 36 from rfl, pk_mul, nI_add]
        rw [z k hk'] at s
        rw [if_neg (by rw [e8]; exact nI_pos (by omega)), e_X10_truly M (by omega), ob_e, pI_pos (by omega)]
        dsimp only
        rw [ix, if_pos ((ix_nI (by omega)).mpr (by rw [ln_94]; omega)), nI_clamp (by omega), rd, e8, e_X10_has (by omega) (by omega), ob_e, mkN_tb, decide_eq_true hv, Bool.true_and, nI_1, bd_e, bd_e]
        dsimp only
        by_cases c : pa (h (2 + k)) (h (8 + k) - 1) v = true
        · rw [if_pos c] at s
          rw [c, if_neg (show ¬ bI true = 0 by decide), show (1 : Int32) <<< (nI k &&& 31) = nI (2 ^ k) from q_shl (by omega), nx_or, mkN_top, ← e8]
          exact s
        · rw [if_neg c, Nat.add_zero] at s
          rw [Bool.not_eq_true] at c
          rw [c, if_pos (show bI false = 0 from rfl), or_z, ← e8]
          exact s
theorem m309 {i : Nat} (hi : i < 40) (K : Int32 → Int32 → DD → Option (Int32 × DD)) (v1 v5 v6 v9 : Int32) (d : DD) : f_X10_drawn_309 K v1 (nI i) v5 v6 v9 d = K v1 (nI (i + 1)) (u1 (u1 (u1 d 88 (170 + 3 * i) v5) 88 (170 + 3 * i + 1) v6) 88 (170 + 3 * i + 2) v9) := by
  have n1 : (170 : Int32) + 3 * nI i = nI (170 + 3 * i) := by
    rw [show (170 : Int32) = nI 170 from rfl, show (3 : Int32) = nI 3 from rfl, pk_mul, nI_add]
  have n2 : nI (170 + 3 * i) + (1 : Int32) = nI (170 + 3 * i + 1) := nI_1 _
  have n3 : nI (170 + 3 * i) + (2 : Int32) = nI (170 + 3 * i + 2) := by
    rw [show (2 : Int32) = nI 2 from rfl, nI_add]
  unfold f_X10_drawn_309
  rw [n1, n2, n3, if_pos ((ix_nI (by omega)).mpr (by rw [ln_88]; omega)), bd_e, if_pos ((ix_nI (by omega)).mpr (by rw [ln_88]; omega)), bd_e, if_pos ((ix_nI (by omega)).mpr (by rw [ln_88]; omega)), bd_e, nI_clamp (by omega), nI_clamp (by omega), nI_clamp (by omega), nI_1]
def MDI (h g : Nat → Nat) (x : Int32) (d : DD) (i : Nat) (d' : DD) : Prop := (∀ a, a ≠ 86 → a ≠ 88 → d'.1 a = d.1 a) ∧ d'.2 = d.2 ∧ (∀ j, j ≠ 37 → d'.1 86 j = d.1 86 j) ∧ d'.1 86 37 = sdd x i ∧ ∀ j, d'.1 88 j = nI (hMd h g x i j)
theorem md_l {h g : Nat → Nat} {x : Int32} {d : DD} (V : VH h) (M : HM d h) (T : ∀ k, k < h 0 → 1 ≤ h (8 + k)) (h1 : 0 < h 1) (W : ∀ a, a < h 1 → g a < 2 + 2 * h 0) (C : ∀ i, i < h 1 → d.1 87 i &&& 255 = nI (g i)) {n : Nat} (hn : n ≤ 40) : ∀ (m i f : Nat) (d' : DD), i + m = n → m < f → MDI h g x d i d' → OW (f_X10_drawn_150 f (nI n) (nI i) d') (fun r d'' => r = 1 ∧ ∃ dm, MDI h g x d n dm ∧ d'' = u1 dm 88 169 (nI n)) := by
  have v0 := V.1
  have v1 := V.2.1
  intro m
  induction m with
  | zero =>
    intro i f d' hi hf I
    cases f with
    | zero => omega
    | succ f =>
      show OW (f_X10_drawn_150B (f_X10_drawn_150 f) _ _ _) _
      unfold f_X10_drawn_150B
      have e : i = n := by omega
      subst e
      rw [if_neg (by rw [nI_ltI (by omega) (by omega)]; omega), if_pos e169, bd_e]
      exact ow_ret ⟨rfl, d', I, rfl⟩
  | succ m ih =>
    intro i f d' hi hf I
    cases f with
    | zero => omega
    | succ f =>
      show OW (f_X10_drawn_150B (f_X10_drawn_150 f) _ _ _) _
      unfold f_X10_drawn_150B
      have ha : dA (h 1) x i < h 1 := dr_lt h1
      have hu : dU x i < 30 := dr_lt (by decide)
      have hw := W _ ha
      have V' := vh_M (i := i) V (x := x) h1 W
      have e0 : ∀ j, j < 169 → hMd h g x i j = h j := fun j hj => hMd_lo (by omega)
      have p1 : d'.1 88 (1 : Int32).toNatClampNeg = nI (h 1) := by
        show d'.1 88 1 = _
        rw [I.2.2.2.2 1, e0 1 (by omega)]
      have s1 : (u1 d' 86 37 (nxs (sdd x i))).1 86 37 = nxs (sdd x i) := by rw [u1_at, if_pos ⟨rfl, rfl⟩]
      have D2 : ∀ a, a ≠ 86 → (u1 (u1 d' 86 37 (nxs (sdd x i))) 86 37 (nxs (nxs (sdd x i)))).1 a = d'.1 a := by
        intro a h86
        funext j
        rw [u1_at, if_neg (by omega), u1_at, if_neg (by omega)]
      have oc : (u1 (u1 d' 86 37 (nxs (sdd x i))) 86 37 (nxs (nxs (sdd x i)))).1 87 (dA (h 1) x i) &&& 255 = nI (g (dA (h 1) x i)) := by
        rw [D2 87 (by decide), I.1 87 (by decide) (by decide)]
        exact C _ ha
      have M' : HM (u1 (u1 d' 86 37 (nxs (sdd x i))) 86 37 (nxs (nxs (sdd x i)))) (hMd h g x i) := hm_told V M e0 (fun j => by rw [D2 88 (by decide)]; exact I.2.2.2.2 j) (by rw [D2 94 (by decide)]; exact I.1 94 (by decide) (by decide)) (by rw [D2 95 (by decide)]; exact I.1 95 (by decide) (by decide))
      have T' : ∀ k, k < hMd h g x i 0 → 1 ≤ hMd h g x i (8 + k) := by
        intro k hk
        rw [e0 0 (by omega)] at hk
        rw [e0 (8 + k) (by omega)]
        exact T k hk
      rw [if_pos (by rw [nI_ltI (by omega) (by omega)]; omega), if_pos e1_88, p1, e_X10_draw h1 (by omega), ob_e, I.2.2.2.1]
      dsimp only
      rw [show (30 : Int32) = nI 30 from rfl, e_X10_draw (by decide) (by decide), ob_e, s1]
      dsimp only
      rw [show dr (nxs (sdd x i)) (h 1) = dA (h 1) x i from rfl, show dr (nxs (nxs (sdd x i))) 30 = dU x i from rfl, e_X10_octet (by omega) oc, ob_e]
      dsimp only
      rw [bd_e]
      have body := m207_l V' M' T' (show g (dA (h 1) x i) < 8 by omega) hu (f_X10_drawn_150 f) (nI n) (nI i) (nI (dA (h 1) x i)) (nI (dU x i)) (hMd h g x i 0) 0 FU (by omega) (by unfold FU; rw [e0 0 (by omega)]; omega)
      rw [tr_eq V e0, m309 (by omega)] at body
      have fin := ih (i + 1) f (u1 (u1 (u1 (u1 (u1 d' 86 37 (nxs (sdd x i))) 86 37 (nxs (nxs (sdd x i)))) 88 (170 + 3 * i) (nI (dA (h 1) x i))) 88 (170 + 3 * i + 1) (nI (dU x i))) 88 (170 + 3 * i + 2) (nI (dK h g x i))) (by omega) (by omega) (by
        refine ⟨fun a a1 a2 => ?_, I.2.1, fun j hj => ?_, ?_, fun j => ?_⟩
        · rw [← I.1 a a1 a2]
          funext j
          rw [u1_at, if_neg (by omega), u1_at, if_neg (by omega), u1_at, if_neg (by omega), u1_at, if_neg (by omega), u1_at, if_neg (by omega)]
        · rw [u1_at, if_neg (by omega), u1_at, if_neg (by omega), u1_at, if_neg (by omega), u1_at, if_neg (by omega), u1_at, if_neg (by omega)]
          exact I.2.2.1 j hj
        · rw [u1_at, if_neg (by omega), u1_at, if_neg (by omega), u1_at, if_neg (by omega), u1_at, if_pos ⟨rfl, rfl⟩]
          rfl
        · rw [u1_at, u1_at, u1_at]
          by_cases c2 : j = 170 + 3 * i + 2
          · rw [if_pos ⟨rfl, c2⟩, c2, (hMd_t (show i < i + 1 by omega)).2.2]
          · rw [if_neg (fun z => c2 z.2)]
            by_cases c3 : j = 170 + 3 * i + 1
            · rw [if_pos ⟨rfl, c3⟩, c3, (hMd_t (show i < i + 1 by omega)).2.1]
            · rw [if_neg (fun z => c3 z.2)]
              by_cases c4 : j = 170 + 3 * i
              · rw [if_pos ⟨rfl, c4⟩, c4, (hMd_t (show i < i + 1 by omega)).1]
              · rw [if_neg (fun z => c4 z.2), D2 88 (by decide), I.2.2.2.2 j]
                unfold hMd
                by_cases c5 : 170 ≤ j ∧ j < 170 + 3 * i
                · rw [if_pos c5, if_pos (by omega)]
                · rw [if_neg c5, if_neg (by omega)])
      by_cases cw : g (dA (h 1) x i) = 1
      · rw [if_pos cw] at body
        rw [if_pos (show nI (g (dA (h 1) x i)) = 1 by rw [cw]; rfl), show nI (dU x i) - 1 = pI (dU x i) from rfl]
        exact (congrArg (fun o => OW o (fun r d'' => r = 1 ∧ ∃ dm, MDI h g x d n dm ∧ d'' = u1 dm 88 169 (nI n))) body).mpr fin
      · rw [if_neg cw] at body
        rw [if_neg (show ¬ nI (g (dA (h 1) x i)) = 1 from fun z => cw ((nI_eq (by omega) (by omega)).mp (show nI (g (dA (h 1) x i)) = nI 1 from z)))]
        exact (congrArg (fun o => OW o (fun r d'' => r = 1 ∧ ∃ dm, MDI h g x d n dm ∧ d'' = u1 dm 88 169 (nI n))) body).mpr fin
