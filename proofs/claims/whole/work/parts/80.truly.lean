-- PURE ROWS: what is told truly (class)
def Tr (h : Nat → Nat) (w u k : Nat) : Bool := Fw h u w k (h (8 + k) - 1)
theorem tr_l {h nm} {d : DD} (V : VH h) (H : HC 2 d h nm) (T : ∀ k, k < h 0 → 1 ≤ h (8 + k)) {w u : Nat} (hw : w < 8) (hu : u < 30) : ∀ (m k f : Nat), k + m = h 0 → m < f → f_X1_trulyTold_5 2 f (nI w) (nI u) (nI (mkN k (Tr h w u))) (nI k) d = some (nI (tB w (mkN (h 0) (Tr h w u))), d) := by
  have v0 := V.1
  intro m
  induction m with
  | zero =>
    intro k f hk hf
    cases f with
    | zero => omega
    | succ f =>
      show f_X1_trulyTold_5B 2 (f_X1_trulyTold_5 2 f) _ _ _ _ _ = _
      unfold f_X1_trulyTold_5B
      have e : k = h 0 := by omega
      subst e
      have l := mkN_lt (h 0) (Tr h w u)
      have p8 := p28 v0
      rw [hc_k H, if_neg (by rw [nI_ltI (by omega) (by omega)]; omega), e_toldBy hw (by omega), ob_e]
  | succ m ih =>
    intro k f hk hf
    cases f with
    | zero => omega
    | succ f =>
      show f_X1_trulyTold_5B 2 (f_X1_trulyTold_5 2 f) _ _ _ _ _ = _
      unfold f_X1_trulyTold_5B
      have s := ih (k + 1) f (by omega) (by omega)
      have hk' : k < h 0 := by omega
      have v := V.2.2.1 k hk'
      have tk := T k hk'
      have tle := tn_le (lo := h (2 + k)) v.2.2.1
      rw [mkN] at s
      have fin : ∀ S : Nat → Bool, S (h (8 + k) - 1) = Tr h w u k → (if (lushr (mkL S) (nI (h (8 + k) - 1))) &&& (1 : Int64) = (1 : Int64) then bd (nI (mkN k (Tr h w u)) ||| ((1 : Int32) <<< (nI k &&& 31))) fun x7 => f_X1_trulyTold_5 2 f (nI w) (nI u) x7 (nI k + (1 : Int32)) d else f_X1_trulyTold_5 2 f (nI w) (nI u) (nI (mkN k (Tr h w u))) (nI k + (1 : Int32)) d) = some (nI (tB w (mkN (h 0) (Tr h w u))), d) := by
        intro S hS
        simp only [nI_lit, bd_e]
        by_cases c : Tr h w u k = true
        · rw [if_pos c] at s
          rw [if_pos (show (lushr (mkL S) (nI (h (8 + k) - 1))) &&& (1 : Int64) = (1 : Int64) from (lx_uhas (by omega)).mpr (by rw [bl_mk (by omega), hS]; exact c)), q_shl (by omega), nx_or, mkN_top, nI_add]
          exact s
        · rw [if_neg c] at s
          rw [if_neg (show ¬ (lushr (mkL S) (nI (h (8 + k) - 1))) &&& (1 : Int64) = (1 : Int64) from fun z => c (by rw [← hS, ← bl_mk (P := S) (show h (8 + k) - 1 < 64 by omega)]; exact (lx_uhas (by omega)).mp z)), nI_add]
          exact s
      have et := hc_tr hb_2 V H hk'
      rw [pI_pos (by omega)] at et
      rw [hc_k H, if_pos (by rw [nI_ltI (by omega) (by omega)]; exact hk')]
      by_cases c1 : w = 1
      · rw [if_pos (show nI w = 1 by rw [c1]; rfl), show nI u - 1 = pI u from rfl, e_passing_ahead hb_2 V H hk' hu, ob_e, e_X9_at, ob_e, et]
        exact fin _ (by unfold Tr Fw; rw [if_pos c1])
      · rw [if_neg (show ¬ nI w = 1 from fun z => c1 ((nI_eq (by omega) (by omega)).mp (show nI w = nI 1 from z))), e_X1_passing hb_2 V H hk' hu, ob_e, e_X9_at, ob_e, et]
        exact fin _ (by unfold Tr Fw; rw [if_neg c1])
theorem e_trulyTold {h nm} {d : DD} (V : VH h) (H : HC 2 d h nm) (T : ∀ k, k < h 0 → 1 ≤ h (8 + k)) {w u : Nat} (hw : w < 8) (hu : u < 30) : f_X1_trulyTold 2 (nI w) (nI u) d = some (nI (tB w (mkN (h 0) (Tr h w u))), d) := by
  have v0 := V.1
  exact tr_l V H T hw hu (h 0) 0 FU (by omega) (by unfold FU; omega)
