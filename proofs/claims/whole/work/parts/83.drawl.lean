-- PURE ROWS: drawn: what is drawn
def sdd (x : Int32) : Nat → Int32
  | 0 => x
  | i + 1 => nxs (nxs (sdd x i))
def dA (P : Nat) (x : Int32) (i : Nat) : Nat := dr (nxs (sdd x i)) P
def dU (x : Int32) (i : Nat) : Nat := dr (nxs (nxs (sdd x i))) 30
def dK (h g : Nat → Nat) (x : Int32) (i : Nat) : Nat := tB (g (dA (h 1) x i)) (mkN (h 0) (Tr h (g (dA (h 1) x i)) (dU x i)))
def tzd (h g : Nat → Nat) (x : Int32) (j : Nat) : Nat := if (j - 170) % 3 = 0 then dA (h 1) x ((j - 170) / 3) else if (j - 170) % 3 = 1 then dU x ((j - 170) / 3) else dK h g x ((j - 170) / 3)
def hMd (h g : Nat → Nat) (x : Int32) (i : Nat) : Nat → Nat := fun j => if 170 ≤ j ∧ j < 170 + 3 * i then tzd h g x j else h j
def hDd (h g : Nat → Nat) (x : Int32) (i : Nat) : Nat → Nat := upN (hMd h g x i) 169 i
theorem tzd_0 (h g : Nat → Nat) (x : Int32) (i : Nat) : tzd h g x (170 + 3 * i) = dA (h 1) x i := by
  unfold tzd
  rw [if_pos (by omega), show (170 + 3 * i - 170) / 3 = i by omega]
theorem tzd_1 (h g : Nat → Nat) (x : Int32) (i : Nat) : tzd h g x (170 + 3 * i + 1) = dU x i := by
  unfold tzd
  rw [if_neg (by omega), if_pos (by omega), show (170 + 3 * i + 1 - 170) / 3 = i by omega]
theorem tzd_2 (h g : Nat → Nat) (x : Int32) (i : Nat) : tzd h g x (170 + 3 * i + 2) = dK h g x i := by
  unfold tzd
  rw [if_neg (by omega), if_neg (by omega), show (170 + 3 * i + 2 - 170) / 3 = i by omega]
theorem hMd_lo {h g : Nat → Nat} {x : Int32} {i j : Nat} (hj : j < 170) : hMd h g x i j = h j := if_neg (by omega)
theorem hDd_lo {h g : Nat → Nat} {x : Int32} {i j : Nat} (hj : j < 169) : hDd h g x i j = h j := by
  unfold hDd
  rw [upN_ne (by omega)]
  exact if_neg (by omega)
theorem hDd_169 {h g : Nat → Nat} {x : Int32} {i : Nat} : hDd h g x i 169 = i := by
  unfold hDd
  rw [upN_same]
theorem hMd_t {h g : Nat → Nat} {x : Int32} {i j : Nat} (hj : j < i) : hMd h g x i (170 + 3 * j) = dA (h 1) x j ∧ hMd h g x i (170 + 3 * j + 1) = dU x j ∧ hMd h g x i (170 + 3 * j + 2) = dK h g x j := by
  unfold hMd
  rw [if_pos (by omega), if_pos (by omega), if_pos (by omega), tzd_0, tzd_1, tzd_2]
  exact ⟨rfl, rfl, rfl⟩
theorem hMd_o {h g : Nat → Nat} {x : Int32} {i j : Nat} (hj : ¬ j < i) : hMd h g x i (170 + 3 * j) = h (170 + 3 * j) ∧ hMd h g x i (170 + 3 * j + 1) = h (170 + 3 * j + 1) ∧ hMd h g x i (170 + 3 * j + 2) = h (170 + 3 * j + 2) := by
  unfold hMd
  rw [if_neg (by omega), if_neg (by omega), if_neg (by omega)]
  exact ⟨rfl, rfl, rfl⟩
theorem hDd_t {h g : Nat → Nat} {x : Int32} {i j : Nat} (hj : j < i) : hDd h g x i (170 + 3 * j) = dA (h 1) x j ∧ hDd h g x i (170 + 3 * j + 1) = dU x j ∧ hDd h g x i (170 + 3 * j + 2) = dK h g x j := by
  unfold hDd
  rw [upN_ne (by omega), upN_ne (by omega), upN_ne (by omega)]
  exact hMd_t hj
theorem tB_lt {w s K : Nat} (hw : w < 2 + 2 * K) (hs : s < 2 ^ K) : tB w s < 2 ^ K := by
  unfold tB
  by_cases c1 : w ≤ 1
  · rw [if_pos c1]; exact hs
  · rw [if_neg c1]
    by_cases c2 : w % 2 = 0
    · rw [if_pos c2]
      exact Nat.lt_of_le_of_lt Nat.and_le_left hs
    · rw [if_neg c2]
      exact Nat.or_lt_two_pow hs (Nat.pow_lt_pow_right (by decide) (by omega))
theorem dK_lt {h g : Nat → Nat} {x : Int32} {i : Nat} (h1 : 0 < h 1) (W : ∀ a, a < h 1 → g a < 2 + 2 * h 0) : dK h g x i < 2 ^ h 0 := tB_lt (W _ (dr_lt h1)) (mkN_lt _ _)
theorem vh_D {h g : Nat → Nat} (V : VH h) {x : Int32} {i : Nat} (hi : i ≤ 40) (h1 : 0 < h 1) (W : ∀ a, a < h 1 → g a < 2 + 2 * h 0) : VH (hDd h g x i) := by
  refine vh_told V (fun j hj => hDd_lo hj) (by rw [hDd_169]; exact hi) (fun j hj => ?_)
  rw [hDd_169] at hj
  obtain ⟨a, b, c⟩ := hDd_t (h := h) (g := g) (x := x) hj
  rw [a, b, c]
  exact ⟨dr_lt h1, dr_lt (by decide), dK_lt h1 W⟩
theorem vh_M {h g : Nat → Nat} (V : VH h) {x : Int32} {i : Nat} (h1 : 0 < h 1) (W : ∀ a, a < h 1 → g a < 2 + 2 * h 0) : VH (hMd h g x i) := by
  have e169 : hMd h g x i 169 = h 169 := hMd_lo (by omega)
  refine vh_told V (fun j hj => hMd_lo (by omega)) (by rw [e169]; exact V.2.2.2.2.2.2.2.1) (fun j hj => ?_)
  rw [e169] at hj
  by_cases c : j < i
  · obtain ⟨a, b, c⟩ := hMd_t (h := h) (g := g) (x := x) c
    rw [a, b, c]
    exact ⟨dr_lt h1, dr_lt (by decide), dK_lt h1 W⟩
  · obtain ⟨a, b, c⟩ := hMd_o (h := h) (g := g) (x := x) c
    rw [a, b, c]
    exact V.2.2.2.2.2.2.2.2 j hj
theorem tr_eq {h h' : Nat → Nat} (V : VH h) (e : ∀ j, j < 169 → h' j = h j) (w u : Nat) : mkN (h' 0) (Tr h' w u) = mkN (h 0) (Tr h w u) := by
  have v0 := V.1
  rw [e 0 (by omega)]
  refine mkN_congr (fun k hk => ?_)
  unfold Tr Fw
  rw [e (2 + k) (by omega), e (5 + k) (by omega), e (8 + k) (by omega)]
-- class
def CDI (h g : Nat → Nat) (x : Int32) (d : DD) (i : Nat) (d' : DD) : Prop := (∀ a, a ∉ [12, 13, 14, 15] → d'.1 a = d.1 a ∧ d'.2 a = d.2 a) ∧ d'.1 12 0 = nI i ∧ ∀ j, j < i → d'.1 13 j = nI (dA (h 1) x j) ∧ d'.1 14 j = nI (dU x j) ∧ d'.1 15 j = nI (dK h g x j)
theorem cdi_hc {h g : Nat → Nat} {nm} {x : Int32} {d d' : DD} {i : Nat} (V : VH h) (H : HC 2 d h nm) (I : CDI h g x d i d') : HC 2 d' (hDd h g x i) nm := by
  have sub : ∀ a, a ∈ [2, 3, 4, 5, 6, 7, 8, 9, 10, 11] → a ∉ [12, 13, 14, 15] := by decide
  refine hc_told V H (fun j hj => hDd_lo hj) (fun a ha => I.1 a (sub a ha)) (by rw [hDd_169]; exact I.2.1) (fun j hj => ?_)
  rw [hDd_169] at hj
  obtain ⟨a, b, c⟩ := hDd_t (h := h) (g := g) (x := x) hj
  rw [a, b, c]
  exact I.2.2 j hj
theorem cdi_s {h g : Nat → Nat} {x : Int32} {d d' : DD} {i : Nat} (I : CDI h g x d i d') : CDI h g x d (i + 1) (dT d' i (dA (h 1) x i) (dU x i) (dK h g x i)) := by
  refine ⟨fun a ha => ?_, ?_, fun j hj => ?_⟩
  · exact ⟨(dT_other ha).1.trans (I.1 a ha).1, (dT_other ha).2.trans (I.1 a ha).2⟩
  · unfold dT
    rw [u1_at, if_pos ⟨rfl, rfl⟩]
  · unfold dT
    by_cases c : j = i
    · subst c
      refine ⟨?_, ?_, ?_⟩
      · rw [u1_at, if_neg (by omega), u1_at, if_neg (by omega), u1_at, if_neg (by omega), u1_at, if_pos ⟨rfl, rfl⟩]
      · rw [u1_at, if_neg (by omega), u1_at, if_neg (by omega), u1_at, if_pos ⟨rfl, rfl⟩]
      · rw [u1_at, if_neg (by omega), u1_at, if_pos ⟨rfl, rfl⟩]
    · have t := I.2.2 j (by omega)
      refine ⟨?_, ?_, ?_⟩
      · rw [u1_at, if_neg (by omega), u1_at, if_neg (by omega), u1_at, if_neg (by omega), u1_at, if_neg (by omega)]; exact t.1
      · rw [u1_at, if_neg (by omega), u1_at, if_neg (by omega), u1_at, if_neg (by omega), u1_at, if_neg (by omega)]; exact t.2.1
      · rw [u1_at, if_neg (by omega), u1_at, if_neg (by omega), u1_at, if_neg (by omega), u1_at, if_neg (by omega)]; exact t.2.2
theorem cdi_l {h g : Nat → Nat} {nm} {x : Int32} {d : DD} (V : VH h) (H : HC 2 d h nm) (T : ∀ k, k < h 0 → 1 ≤ h (8 + k)) (h1 : 0 < h 1) (W : ∀ a, a < h 1 → g a < 2 + 2 * h 0) (C : ∀ i, i < h 1 → d.1 1 i = nI (g i)) {n : Nat} (hn : n ≤ 40) : ∀ (m i f : Nat) (d' : DD), i + m = n → m < f → CDI h g x d i d' → OW (f_X9_drawTellings_16 f (nI n) (sdd x i) (nI i) d') (fun _ d'' => CDI h g x d n d'') := by
  have v0 := V.1
  have v1 := V.2.1
  intro m
  induction m with
  | zero =>
    intro i f d' hi hf I
    cases f with
    | zero => omega
    | succ f =>
      show OW (f_X9_drawTellings_16B (f_X9_drawTellings_16 f) _ _ _ _) _
      unfold f_X9_drawTellings_16B
      have e : i = n := by omega
      subst e
      rw [if_neg (by rw [nI_ltI (by omega) (by omega)]; omega)]
      exact ow_ret I
  | succ m ih =>
    intro i f d' hi hf I
    cases f with
    | zero => omega
    | succ f =>
      show OW (f_X9_drawTellings_16B (f_X9_drawTellings_16 f) _ _ _ _) _
      unfold f_X9_drawTellings_16B
      have V' := vh_D (x := x) V (show i ≤ 40 by omega) h1 W
      have H' := cdi_hc V H I
      have e0 : ∀ j, j < 169 → hDd h g x i j = h j := fun j hj => hDd_lo hj
      have T' : ∀ k, k < hDd h g x i 0 → 1 ≤ hDd h g x i (8 + k) := by
        intro k hk
        rw [e0 0 (by omega)] at hk
        rw [e0 (8 + k) (by omega)]
        exact T k hk
      have ha : dA (h 1) x i < h 1 := dr_lt h1
      have hu : dU x i < 30 := dr_lt (by decide)
      have hw := W _ ha
      have p21 : d'.1 2 1 = nI (h 1) := by rw [hc_p H', e0 1 (by omega)]
      have at1 : rd1 d' 1 (nI (dA (h 1) x i)) = nI (g (dA (h 1) x i)) := by
        rw [rd1_in (by rw [ln_1]; omega), (I.1 1 (by decide)).1]
        exact C _ ha
      have tt := e_trulyTold V' H' T' (show g (dA (h 1) x i) < 8 by omega) hu
      rw [tr_eq V e0] at tt
      have ad := e_X5_add (a := dA (h 1) x i) (u := dU x i) (s := dK h g x i) I.2.1 (show i < 40 by omega)
      rw [if_pos (by rw [nI_ltI (by omega) (by omega)]; omega), e_drawNext, ob_e]
      dsimp only
      rw [p21, e_drawOf _ h1 (by omega), ob_e, e_drawNext, ob_e]
      dsimp only
      rw [show (30 : Int32) = nI 30 from rfl, e_drawOf _ (by decide) (by decide), ob_e]
      dsimp only
      rw [show dr (nxs (sdd x i)) (h 1) = dA (h 1) x i from rfl, show dr (nxs (nxs (sdd x i))) 30 = dU x i from rfl, e_X9_at, ob_e]
      dsimp only
      rw [at1, tt, ob_e]
      dsimp only
      rw [show tB (g (dA (h 1) x i)) (mkN (h 0) (Tr h (g (dA (h 1) x i)) (dU x i))) = dK h g x i from rfl, ad, ob_e, nI_1]
      exact ih (i + 1) f _ (by omega) (by omega) (cdi_s I)
