-- PURE ROWS: feed
theorem bp_b (x : Int32) : x.toInt8.toInt32 &&& 255 = x &&& 255 := by
  apply Int32.toBitVec_inj.mp
  rw [Int32.toBitVec_and, Int32.toBitVec_and, Int8.toBitVec_toInt32, Int32.toBitVec_toInt8]
  apply BitVec.eq_of_getLsbD_eq
  intro i hi
  rw [BitVec.getLsbD_and, BitVec.getLsbD_and]
  have hm : ∀ i < 32, 8 ≤ i → (255 : Int32).toBitVec.getLsbD i = false := by decide
  rcases Nat.lt_or_ge i 8 with z | z
  · rw [BitVec.getLsbD_signExtend, BitVec.getLsbD_signExtend, if_pos z, if_pos hi]
    simp only [z, hi, decide_true, Bool.true_and]
  · rw [hm i hi z]; simp
def Bs (x : Int32) (k : Nat) : Nat := (iushr x (nI (8 * k))).toBitVec.toNat % 2 ^ 8
theorem bs_c (x : Int32) (k : Nat) : iushr x (nI (8 * k)) &&& (255 : Int32) = nI (Bs x k) := pk_and _ 8 (by decide)
theorem bs_m {x : Int32} {k : Nat} (hk : k ≤ 3) : vp_nar .byte ((x >>> (nI (8 * k) &&& 31)).toInt8.toInt32) &&& (255 : Int32) = nI (Bs x k) := by
  rw [pk_vb, bp_b, ← bs_c]
  apply b_ext
  intro i hi
  rw [b_and, b_and, b_255]
  by_cases c : i < 8
  · rw [b_sshr (8 * k) (by omega) x hi, if_pos (by omega)]
    unfold iushr
    rw [b_ushr (8 * k) (by omega)]
  · rw [decide_eq_false c, Bool.and_false, Bool.and_false]
theorem bs_lt (x : Int32) (k : Nat) : Bs x k < 256 := Nat.mod_lt _ (by decide)
def exg (g : Nat → Nat) (n b : Nat) : Nat → Nat := fun i => if i = n then b else g i
def gk (x : Int32) : Nat → (Nat → Nat) → Nat → Nat → Nat
  | 0, g, n => exg g n (Bs x 0)
  | k + 1, g, n => gk x k (exg g n (Bs x (k + 1))) (n + 1)
theorem gk_lt (x : Int32) : ∀ (k : Nat) (g : Nat → Nat) (n : Nat), (∀ i, g i < 256) → ∀ i, gk x k g n i < 256
  | 0, g, n, h, i => by
    unfold gk exg
    split
    · exact bs_lt x 0
    · exact h i
  | k + 1, g, n, h, i => gk_lt x k _ (n + 1) (fun j => by
    unfold exg
    split
    · exact bs_lt x (k + 1)
    · exact h j) i
def CT (d : DD) (g : Nat → Nat) (n : Nat) : Prop := d.1 0 1 = nI n ∧ ∀ i, i < n → d.1 1 i = nI (g i)
def MT (d : DD) (g : Nat → Nat) (n : Nat) : Prop := d.1 86 2 = nI n ∧ ∀ i, i < n → d.1 87 i &&& 255 = nI (g i)
def CK (d d' : DD) : Prop := (∀ a, a ≠ 0 → a ≠ 1 → d'.1 a = d.1 a) ∧ d'.2 = d.2 ∧ ∀ j, j ≠ 1 → d'.1 0 j = d.1 0 j
def MK (d d' : DD) : Prop := (∀ a, a ≠ 86 → a ≠ 87 → d'.1 a = d.1 a) ∧ d'.2 = d.2 ∧ ∀ j, j ≠ 2 → d'.1 86 j = d.1 86 j
theorem ck_trans {d d' d'' : DD} (h : CK d d') (g : CK d' d'') : CK d d'' := ⟨fun a a1 a2 => (g.1 a a1 a2).trans (h.1 a a1 a2), g.2.1.trans h.2.1, fun j hj => (g.2.2 j hj).trans (h.2.2 j hj)⟩
theorem mk_trans {d d' d'' : DD} (h : MK d d') (g : MK d' d'') : MK d d'' := ⟨fun a a1 a2 => (g.1 a a1 a2).trans (h.1 a a1 a2), g.2.1.trans h.2.1, fun j hj => (g.2.2 j hj).trans (h.2.2 j hj)⟩
theorem sh_dn {k : Nat} : nI (8 * (k + 1)) + (-8 : Int32) = nI (8 * k) := by
  rw [show (-8 : Int32) = -nI 8 from rfl, ← Int32.sub_eq_add_neg, pk_sub (by omega)]
  congr 1
theorem af_l (x : Int32) : ∀ (k n f : Nat) (d : DD) (g : Nat → Nat), k ≤ 3 → k + 1 < f → n + k + 1 ≤ 940 → CT d g n → OW (f_X9_addFour_3 f x (nI (8 * k)) d) (fun _ d' => CK d d' ∧ CT d' (gk x k g n) (n + k + 1)) := by
  intro k
  induction k with
  | zero =>
    intro n f d g hk hf hn C
    obtain ⟨f', rfl⟩ : ∃ f', f = f' + 2 := ⟨f - 2, by omega⟩
    show OW (f_X9_addFour_3B (f_X9_addFour_3 (f' + 1)) _ _ _) _
    unfold f_X9_addFour_3B
    rw [if_neg (nI_pos (by omega)), C.1, bs_c, e_X9_put, ob_e, wr1_in (by rw [ln_1]; omega), bd_e]
    dsimp only
    rw [show (u1 d 1 n (nI (Bs x 0))).1 0 1 = nI n by rw [u1_at, if_neg (by omega)]; exact C.1, nI_1]
    show OW (f_X9_addFour_3B (f_X9_addFour_3 f') _ _ _) _
    unfold f_X9_addFour_3B
    rw [if_pos (by decide)]
    refine ow_ret ⟨⟨fun a h0 h1 => ?_, rfl, fun j hj => ?_⟩, ?_, fun i hi => ?_⟩
    · funext j
      rw [u1_at, if_neg (by omega), u1_at, if_neg (by omega)]
    · rw [u1_at, if_neg (by omega), u1_at, if_neg (by omega)]
    · rw [u1_at, if_pos ⟨rfl, rfl⟩]
    · rw [u1_at, if_neg (by omega), u1_at]
      unfold gk exg
      by_cases e : i = n
      · rw [if_pos ⟨rfl, e⟩, if_pos e]
      · rw [if_neg (fun z => e z.2), if_neg e]
        exact C.2 i (by omega)
  | succ k ih =>
    intro n f d g hk hf hn C
    obtain ⟨f', rfl⟩ : ∃ f', f = f' + 1 := ⟨f - 1, by omega⟩
    show OW (f_X9_addFour_3B (f_X9_addFour_3 f') _ _ _) _
    unfold f_X9_addFour_3B
    rw [if_neg (nI_pos (by omega)), C.1, bs_c, e_X9_put, ob_e, wr1_in (by rw [ln_1]; omega), bd_e]
    dsimp only
    rw [show (u1 d 1 n (nI (Bs x (k + 1)))).1 0 1 = nI n by rw [u1_at, if_neg (by omega)]; exact C.1, nI_1, sh_dn]
    have C' : CT (u1 (u1 d 1 n (nI (Bs x (k + 1)))) 0 1 (nI (n + 1))) (exg g n (Bs x (k + 1))) (n + 1) := by
      refine ⟨by rw [u1_at, if_pos ⟨rfl, rfl⟩], fun i hi => ?_⟩
      rw [u1_at, if_neg (by omega), u1_at]
      unfold exg
      by_cases e : i = n
      · rw [if_pos ⟨rfl, e⟩, if_pos e]
      · rw [if_neg (fun z => e z.2), if_neg e]
        exact C.2 i (by omega)
    have K' : CK d (u1 (u1 d 1 n (nI (Bs x (k + 1)))) 0 1 (nI (n + 1))) := by
      refine ⟨fun a h0 h1 => ?_, rfl, fun j hj => ?_⟩
      · funext j
        rw [u1_at, if_neg (by omega), u1_at, if_neg (by omega)]
      · rw [u1_at, if_neg (by omega), u1_at, if_neg (by omega)]
    refine ow_mono (ih (n + 1) f' _ _ (by omega) (by omega) (by omega) C') ?_
    intro _ d2 H2
    refine ⟨ck_trans K' H2.1, ?_⟩
    rw [show n + (k + 1) + 1 = n + 1 + k + 1 by omega]
    exact H2.2
theorem mf_l (x : Int32) : ∀ (k n f : Nat) (d : DD) (g : Nat → Nat), k ≤ 3 → k + 1 < f → n + k + 1 ≤ 940 → MT d g n → OW (f_X10_four_3 f x (nI (8 * k)) d) (fun _ d' => MK d d' ∧ MT d' (gk x k g n) (n + k + 1)) := by
  intro k
  induction k with
  | zero =>
    intro n f d g hk hf hn C
    obtain ⟨f', rfl⟩ : ∃ f', f = f' + 2 := ⟨f - 2, by omega⟩
    show OW (f_X10_four_3B (f_X10_four_3 (f' + 1)) _ _ _) _
    unfold f_X10_four_3B
    rw [if_neg (nI_pos (by omega)), C.1, if_pos ((ix_nI (by omega)).mpr (by rw [ln_87]; omega)), bd_e, bd_e, nI_clamp (by omega)]
    rw [show (u1 d 87 n (vp_nar .byte ((x >>> (nI (8 * 0) &&& 31)).toInt8.toInt32))).1 86 2 = nI n by rw [u1_at, if_neg (by omega)]; exact C.1, nI_1]
    show OW (f_X10_four_3B (f_X10_four_3 f') _ _ _) _
    unfold f_X10_four_3B
    rw [if_pos (by decide)]
    refine ow_ret ⟨⟨fun a h0 h1 => ?_, rfl, fun j hj => ?_⟩, ?_, fun i hi => ?_⟩
    · funext j
      rw [u1_at, if_neg (by omega), u1_at, if_neg (by omega)]
    · rw [u1_at, if_neg (by omega), u1_at, if_neg (by omega)]
    · rw [u1_at, if_pos ⟨rfl, rfl⟩]
    · rw [u1_at, if_neg (by omega), u1_at]
      unfold gk exg
      by_cases e : i = n
      · rw [if_pos ⟨rfl, e⟩, if_pos e]
        exact bs_m (by omega)
      · rw [if_neg (fun z => e z.2), if_neg e]
        exact C.2 i (by omega)
  | succ k ih =>
    intro n f d g hk hf hn C
    obtain ⟨f', rfl⟩ : ∃ f', f = f' + 1 := ⟨f - 1, by omega⟩
    show OW (f_X10_four_3B (f_X10_four_3 f') _ _ _) _
    unfold f_X10_four_3B
    rw [if_neg (nI_pos (by omega)), C.1, if_pos ((ix_nI (by omega)).mpr (by rw [ln_87]; omega)), bd_e, bd_e, nI_clamp (by omega)]
    rw [show (u1 d 87 n (vp_nar .byte ((x >>> (nI (8 * (k + 1)) &&& 31)).toInt8.toInt32))).1 86 2 = nI n by rw [u1_at, if_neg (by omega)]; exact C.1, nI_1, sh_dn]
    have C' : MT (u1 (u1 d 87 n (vp_nar .byte ((x >>> (nI (8 * (k + 1)) &&& 31)).toInt8.toInt32))) 86 2 (nI (n + 1))) (exg g n (Bs x (k + 1))) (n + 1) := by
      refine ⟨by rw [u1_at, if_pos ⟨rfl, rfl⟩], fun i hi => ?_⟩
      rw [u1_at, if_neg (by omega), u1_at]
      unfold exg
      by_cases e : i = n
      · rw [if_pos ⟨rfl, e⟩, if_pos e]
        exact bs_m hk
      · rw [if_neg (fun z => e z.2), if_neg e]
        exact C.2 i (by omega)
    have K' : MK d (u1 (u1 d 87 n (vp_nar .byte ((x >>> (nI (8 * (k + 1)) &&& 31)).toInt8.toInt32))) 86 2 (nI (n + 1))) := by
      refine ⟨fun a h0 h1 => ?_, rfl, fun j hj => ?_⟩
      · funext j
        rw [u1_at, if_neg (by omega), u1_at, if_neg (by omega)]
      · rw [u1_at, if_neg (by omega), u1_at, if_neg (by omega)]
    refine ow_mono (ih (n + 1) f' _ _ (by omega) (by omega) (by omega) C') ?_
    intro _ d2 H2
    refine ⟨mk_trans K' H2.1, ?_⟩
    rw [show n + (k + 1) + 1 = n + 1 + k + 1 by omega]
    exact H2.2
theorem e_addFour {d : DD} {g : Nat → Nat} {n : Nat} (x : Int32) (hn : n + 4 ≤ 940) (C : CT d g n) : OW (f_X9_addFour x d) (fun _ d' => CK d d' ∧ CT d' (gk x 3 g n) (n + 4)) := af_l x 3 n FU d g (by omega) (by unfold FU; omega) (by omega) C
theorem e_four {d : DD} {g : Nat → Nat} {n : Nat} (x : Int32) (hn : n + 4 ≤ 940) (C : MT d g n) : OW (f_X10_four x d) (fun _ d' => MK d d' ∧ MT d' (gk x 3 g n) (n + 4)) := mf_l x 3 n FU d g (by omega) (by unfold FU; omega) (by omega) C
