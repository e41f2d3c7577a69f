-- PURE ROWS: the table: the class holds it
def CTB (N lo tr : Nat) (L : Nat → Nat) (n : Nat) (d0 : DD) (j : Nat) (d : DD) : Prop := FR [83, 84, 85] d0 d ∧ d.1 83 4 = nI N ∧ (∀ t, t < N → d.1 85 t = nI (Hs lo t)) ∧ d.1 83 0 = nI j ∧ ∀ q, q < j → d.1 84 q = bI (SY N lo tr L n q)
theorem ctb_s {N lo tr : Nat} {L : Nat → Nat} {n j : Nat} {d0 d : DD} (C : CTB N lo tr L n d0 j d) : CTB N lo tr L n d0 (j + 1) (u1 (u1 d 84 j (bI (SY N lo tr L n j))) 83 0 (nI (j + 1))) := by
  obtain ⟨F, h4, h85, h0, h84⟩ := C
  refine ⟨fr_u1 (fr_u1 F (by decide)) (by decide), ?_, fun t ht => ?_, ?_, fun q hq => ?_⟩
  · rw [u1_at, if_neg (by omega), u1_at, if_neg (by omega)]; exact h4
  · rw [u1_at, if_neg (by omega), u1_at, if_neg (by omega)]; exact h85 t ht
  · rw [u1_at, if_pos ⟨rfl, rfl⟩]
  · rw [u1_at, if_neg (by omega), u1_at]
    by_cases c : q = j
    · rw [if_pos ⟨rfl, c⟩, c]
    · rw [if_neg (fun z => c z.2)]
      exact h84 q (by omega)
theorem at_sp {S : List Nat} {d0 d : DD} {sp : Nat → Nat} {h : Nat → Nat} {n i : Nat} (F : FR S d0 d) (h1 : 1 ∉ S) (hn : n ≤ 4) (C : ∀ i, i < n → d0.1 1 i = nI (sp i)) (hi : i < n) : rd1 d 1 (nI i) = nI (sp i) := by
  rw [rd1_in (by rw [ln_1]; omega), (F 1 h1).1]
  exact C i hi
theorem at_lk {S : List Nat} {h nm} {d0 d : DD} {a : Nat} (V : VH h) (H : HC 2 d0 h nm) (F : FR S d0 d) (h1 : 9 ∉ S) (ha : a < h 1) : rd1 d (rf 2 8) (nI a) = nI (h (15 + a)) := by
  have v1 := V.2.1
  have q := hc_lk hb_2 V H ha
  rw [rf_2_8, rd1_in (by rw [ln_9]; omega)] at q ⊢
  rw [(F 9 h1).1]
  exact q
theorem c70 {h nm} {N lo tr : Nat} {sp : Nat → Nat} {n : Nat} {d0 : DD} (V : VH h) (H : HC 2 d0 h nm) (hN : N ≤ 36) (htr : tr < N) (hn : n ≤ 4) (C : ∀ i, i < n → d0.1 1 i = nI (sp i)) (W : ∀ i, i < n → sp i < h 1) {r : Nat} (hr : r < 37) (v10 : Int64) (k51 : Int32 → Int32 → Int64 → Int32 → Int32 → DD → Option (Unit × DD)) (Q : Unit → DD → Prop) (K : ∀ d, CTB N lo tr (fun i => h (15 + sp i)) n d0 ((r + 1) * n) d → OW (if mkL (PQ N lo tr (fun i => h (15 + sp i)) n ((r + 1) * n)) = v10 then k51 (nI n) (nI tr) (mkL (PQ N lo tr (fun i => h (15 + sp i)) n ((r + 1) * n))) (0 : Int32) (nI (r + 1)) d else k51 (nI n) (nI tr) (mkL (PQ N lo tr (fun i => h (15 + sp i)) n ((r + 1) * n))) (1 : Int32) (nI (r + 1)) d) Q) : ∀ (m i f : Nat) (d : DD), i + m = n → m < f → CTB N lo tr (fun i => h (15 + sp i)) n d0 (r * n + i) d → OW (f_X4_hold_70 2 1 k51 f (nI n) (nI tr) (mkL (PQ N lo tr (fun i => h (15 + sp i)) n (r * n + i))) (nI r) v10 (nI i) d) Q := by
  have v1 := V.2.1
  intro m
  induction m with
  | zero =>
    intro i f d hi hf I
    cases f with
    | zero => omega
    | succ f =>
      show OW (f_X4_hold_70B 2 1 k51 (f_X4_hold_70 2 1 k51 f) _ _ _ _ _ _ _) Q
      unfold f_X4_hold_70B
      have e : i = n := by omega
      subst e
      rw [← Nat.succ_mul] at I ⊢
      rw [if_neg (by rw [nI_ltI (by omega) (by omega)]; omega), nI_1]
      exact K d I
  | succ m ih =>
    intro i f d hi hf I
    cases f with
    | zero => omega
    | succ f =>
      show OW (f_X4_hold_70B 2 1 k51 (f_X4_hold_70 2 1 k51 f) _ _ _ _ _ _ _) Q
      unfold f_X4_hold_70B
      have hi' : i < n := by omega
      have wi := W i hi'
      have rm := rn_mod (r := r) hi'
      have jm : r * n ≤ 36 * n := Nat.mul_le_mul_right n (by omega)
      have sy : SY N lo tr (fun i => h (15 + sp i)) n (r * n + i) = ao N lo (h (15 + sp i)) (PQ N lo tr (fun i => h (15 + sp i)) n (r * n + i)) tr := by
        unfold SY
        rw [rm]
      have pq : PQ N lo tr (fun i => h (15 + sp i)) n (r * n + (i + 1)) = stp N lo (h (15 + sp i)) tr (PQ N lo tr (fun i => h (15 + sp i)) n (r * n + i)) := by
        show stp N lo (h (15 + sp ((r * n + i) % n))) tr _ = _
        rw [rm]
        rfl
      have nx := ctb_s I
      rw [sy] at nx
      have s := ih (i + 1) f _ (by omega) (by omega) nx
      rw [pq] at s
      rw [if_pos (by rw [nI_ltI (by omega) (by omega)]; exact hi'), e_X9_at, ob_e, at_sp (h := h) I.1 (by decide) hn C hi']
      dsimp only
      rw [e_X9_at, ob_e, at_lk V H I.1 (by decide) wi]
      dsimp only
      rw [e_say _ hN I.2.1 I.2.2.1 (V.2.2.2.2.1 _ wi) htr I.2.2.2.1 (by omega), ob_e, nI_1]
      exact s
theorem c51 {h nm} {N lo tr : Nat} {sp : Nat → Nat} {n : Nat} {d0 : DD} (V : VH h) (H : HC 2 d0 h nm) (hN : N ≤ 36) (htr : tr < N) (hn : n ≤ 4) (C : ∀ i, i < n → d0.1 1 i = nI (sp i)) (W : ∀ i, i < n → sp i < h 1) {R : Nat} (hR : R < 37) (sR : stq N lo tr (fun i => h (15 + sp i)) n R) (nR : ∀ r, r < R → ¬ stq N lo tr (fun i => h (15 + sp i)) n r) (Q : Unit → DD → Prop) (K : ∀ d, CTB N lo tr (fun i => h (15 + sp i)) n d0 ((R + 1) * n) d → OW (f_X4_hold_127 2 1 (nI n) (nI tr) (mkL (PQ N lo tr (fun i => h (15 + sp i)) n ((R + 1) * n))) d) Q) : ∀ (m r f : Nat) (d : DD), r + m = R → m + 1 < f → CTB N lo tr (fun i => h (15 + sp i)) n d0 (r * n) d → OW (f_X4_hold_51 2 1 f (nI n) (nI tr) (mkL (PQ N lo tr (fun i => h (15 + sp i)) n (r * n))) (1 : Int32) (nI r) d) Q := by
  intro m
  induction m with
  | zero =>
    intro r f d hr hf I
    obtain ⟨f, rfl⟩ : ∃ f', f = f' + 2 := ⟨f - 2, by omega⟩
    show OW (f_X4_hold_51B 2 1 (f_X4_hold_51 2 1 (f + 1)) _ _ _ _ _ _) Q
    unfold f_X4_hold_51B
    have e : r = R := by omega
    subst e
    rw [if_pos (show nI r < (37 : Int32) from (nI_ltI (b := 37) (by omega) (by omega)).mpr hR), if_neg (show ¬ (1 : Int32) = 0 by decide)]
    refine c70 V H hN htr hn C W hR _ _ Q (fun d' I' => ?_) n 0 FU d (by omega) (by unfold FU; omega) I
    have sR' := sR
    unfold stq at sR'
    rw [if_pos sR']
    show OW (f_X4_hold_51B 2 1 (f_X4_hold_51 2 1 f) _ _ _ _ _ _) Q
    unfold f_X4_hold_51B
    by_cases c : nI (r + 1) < (37 : Int32)
    · rw [if_pos c, if_pos rfl]
      exact K d' I'
    · rw [if_neg c]
      exact K d' I'
  | succ m ih =>
    intro r f d hr hf I
    obtain ⟨f, rfl⟩ : ∃ f', f = f' + 1 := ⟨f - 1, by omega⟩
    show OW (f_X4_hold_51B 2 1 (f_X4_hold_51 2 1 f) _ _ _ _ _ _) Q
    unfold f_X4_hold_51B
    rw [if_pos (show nI r < (37 : Int32) from (nI_ltI (b := 37) (by omega) (by omega)).mpr (by omega)), if_neg (show ¬ (1 : Int32) = 0 by decide)]
    refine c70 V H hN htr hn C W (by omega) _ _ Q (fun d' I' => ?_) n 0 FU d (by omega) (by unfold FU; omega) I
    have nq := nR r (by omega)
    unfold stq at nq
    rw [if_neg nq]
    exact ih (r + 1) f d' (by omega) (by omega) I'
def KN (N lo tr : Nat) (L sp : Nat → Nat) (P : Nat → Bool) : Nat → Nat
  | 0 => 0
  | i + 1 => if ao N lo (L i) P tr = true then KN N lo tr L sp P i ||| 2 ^ sp i else KN N lo tr L sp P i
theorem c144 {h nm} {N lo tr : Nat} {sp : Nat → Nat} {n : Nat} {P : Nat → Bool} {d0 : DD} (V : VH h) (H : HC 2 d0 h nm) (hN : N ≤ 36) (htr : tr < N) (hn : n ≤ 4) (C : ∀ i, i < n → d0.1 1 i = nI (sp i)) (W : ∀ i, i < n → sp i < h 1) : ∀ (m i f : Nat) (d : DD), i + m = n → m < f → FR [83, 84, 85] d0 d → d.1 83 4 = nI N → (∀ t, t < N → d.1 85 t = nI (Hs lo t)) → d.1 83 2 = nI (KN N lo tr (fun i => h (15 + sp i)) sp P i) → OW (f_X4_hold_144 2 1 f (nI n) (nI tr) (mkL P) (nI i) d) (fun _ d' => FR [83, 84, 85] d0 d' ∧ d'.1 83 2 = nI (KN N lo tr (fun i => h (15 + sp i)) sp P n) ∧ d'.1 83 0 = d.1 83 0 ∧ d'.1 83 1 = d.1 83 1 ∧ d'.1 84 = d.1 84) := by
  have v1 := V.2.1
  intro m
  induction m with
  | zero =>
    intro i f d hi hf F h4 h85 h2
    cases f with
    | zero => omega
    | succ f =>
      show OW (f_X4_hold_144B 2 1 (f_X4_hold_144 2 1 f) _ _ _ _ _) _
      unfold f_X4_hold_144B
      have e : i = n := by omega
      subst e
      rw [if_neg (by rw [nI_ltI (by omega) (by omega)]; omega)]
      exact ow_ret ⟨F, h2, rfl, rfl, rfl⟩
  | succ m ih =>
    intro i f d hi hf F h4 h85 h2
    cases f with
    | zero => omega
    | succ f =>
      show OW (f_X4_hold_144B 2 1 (f_X4_hold_144 2 1 f) _ _ _ _ _) _
      unfold f_X4_hold_144B
      have hi' : i < n := by omega
      have wi := W i hi'
      have ke : KN N lo tr (fun i => h (15 + sp i)) sp P (i + 1) = if ao N lo (h (15 + sp i)) P tr = true then KN N lo tr (fun i => h (15 + sp i)) sp P i ||| 2 ^ sp i else KN N lo tr (fun i => h (15 + sp i)) sp P i := rfl
      rw [if_pos (by rw [nI_ltI (by omega) (by omega)]; exact hi'), e_X9_at, ob_e, at_sp (h := h) F (by decide) hn C hi']
      dsimp only
      rw [e_X9_at, ob_e, at_lk V H F (by decide) wi]
      dsimp only
      rw [e_isAlone P hN h4 h85 htr (V.2.2.2.2.1 _ wi), ob_e]
      dsimp only
      rw [nI_1]
      cases q : ao N lo (h (15 + sp i)) P tr
      · rw [q, if_neg (by decide)] at ke
        rw [if_pos (show bI false = 0 from rfl)]
        exact ih (i + 1) f d (by omega) (by omega) F h4 h85 (by rw [ke]; exact h2)
      · rw [q, if_pos rfl] at ke
        rw [if_neg (show ¬ bI true = 0 by decide), h2, bd_e, show (1 : Int32) <<< (nI (sp i) &&& 31) = nI (2 ^ sp i) from q_shl (by omega), nx_or]
        refine ow_mono (ih (i + 1) f _ (by omega) (by omega) (fr_u1 F (by decide)) ?_ (fun t ht => ?_) ?_) ?_
        · rw [u1_at, if_neg (by omega)]; exact h4
        · rw [u1_at, if_neg (by omega)]; exact h85 t ht
        · rw [u1_at, if_pos ⟨rfl, rfl⟩, ke]
        · intro _ d' q'
          refine ⟨q'.1, q'.2.1, ?_, ?_, ?_⟩
          · rw [q'.2.2.1, u1_at, if_neg (by omega)]
          · rw [q'.2.2.2.1, u1_at, if_neg (by omega)]
          · rw [q'.2.2.2.2]
            funext z
            rw [u1_at, if_neg (by omega)]
def HQ (N lo tr : Nat) (L sp : Nat → Nat) (n R : Nat) (d0 d : DD) : Prop := FR [83, 84, 85] d0 d ∧ d.1 83 0 = nI ((R + 1) * n) ∧ d.1 83 1 = nI (cnt 64 (PQ N lo tr L n ((R + 1) * n))) ∧ d.1 83 2 = nI (KN N lo tr L sp (PQ N lo tr L n ((R + 1) * n)) n) ∧ ∀ q, q < (R + 1) * n → d.1 84 q = bI (SY N lo tr L n q)
theorem c127 {h nm} {N lo tr : Nat} {sp : Nat → Nat} {n R : Nat} {d0 d : DD} (V : VH h) (H : HC 2 d0 h nm) (hN : N ≤ 36) (htr : tr < N) (hn : n ≤ 4) (C : ∀ i, i < n → d0.1 1 i = nI (sp i)) (W : ∀ i, i < n → sp i < h 1) (I : CTB N lo tr (fun i => h (15 + sp i)) n d0 ((R + 1) * n) d) : OW (f_X4_hold_127 2 1 (nI n) (nI tr) (mkL (PQ N lo tr (fun i => h (15 + sp i)) n ((R + 1) * n))) d) (fun _ d' => HQ N lo tr (fun i => h (15 + sp i)) sp n R d0 d') := by
  obtain ⟨F, h4, h85, h0, h84⟩ := I
  unfold f_X4_hold_127
  rw [e_J13m, ob_e]
  dsimp only
  rw [bd_e, bd_e]
  refine ow_mono (c144 (lo := lo) V H hN htr hn C W n 0 FU _ (by omega) (by unfold FU; omega) (fr_u1 (fr_u1 F (by decide)) (by decide)) ?_ (fun t ht => ?_) ?_) ?_
  · rw [u1_at, if_neg (by omega), u1_at, if_neg (by omega)]; exact h4
  · rw [u1_at, if_neg (by omega), u1_at, if_neg (by omega)]; exact h85 t ht
  · rw [u1_at, if_pos ⟨rfl, rfl⟩]; rfl
  · intro _ d' q
    refine ⟨q.1, ?_, ?_, q.2.1, fun i hi => ?_⟩
    · rw [q.2.2.1, u1_at, if_neg (by omega), u1_at, if_neg (by omega)]; exact h0
    · rw [q.2.2.2.1, u1_at, if_neg (by omega), u1_at, if_pos ⟨rfl, rfl⟩]
    · rw [q.2.2.2.2, u1_at, if_neg (by omega), u1_at, if_neg (by omega)]; exact h84 i hi
theorem e_hold {h nm} {sp : Nat → Nat} {n k R : Nat} {d0 : DD} (V : VH h) (H : HC 2 d0 h nm) (hk : k < h 0) (hT : 1 ≤ h (8 + k)) (hn : n ≤ 4) (C : ∀ i, i < n → d0.1 1 i = nI (sp i)) (W : ∀ i, i < n → sp i < h 1) (hR : R < 37) (sR : stq (tn (h (2 + k)) (h (5 + k))) (h (2 + k)) (h (8 + k) - 1) (fun i => h (15 + sp i)) n R) (nR : ∀ r, r < R → ¬ stq (tn (h (2 + k)) (h (5 + k))) (h (2 + k)) (h (8 + k) - 1) (fun i => h (15 + sp i)) n r) : OW (f_X4_hold 2 (nI k) 1 (nI n) d0) (fun _ d' => HQ (tn (h (2 + k)) (h (5 + k))) (h (2 + k)) (h (8 + k) - 1) (fun i => h (15 + sp i)) sp n R d0 d') := by
  have v0 := V.1
  have v := V.2.2.1 k hk
  have tle := tn_le (lo := h (2 + k)) v.2.2.1
  unfold f_X4_hold
  rw [e_X9_at, ob_e, hc_lo hb_2 V H hk]
  dsimp only
  rw [e_X9_at, ob_e, hc_hi hb_2 V H hk]
  dsimp only
  refine ow_call (e_noteHours v.1 v.2.1 v.2.2.1 d0) ?_
  intro _ d1 I
  have H1 : HC 2 d1 h nm := hc_fr H I.1 (by decide)
  dsimp only
  rw [e_X9_at, ob_e, hc_tr hb_2 V H1 hk, pI_pos (by omega)]
  dsimp only
  rw [I.2.1, bd_e, bd_e, show ((1 : Int64) <<< ((nI (tn (h (2 + k)) (h (5 + k)))).toInt64 &&& 63)) - (1 : Int64) = mkL (fun i => decide (i < tn (h (2 + k)) (h (5 + k)))) from mk_full (by omega)]
  have I0 : CTB (tn (h (2 + k)) (h (5 + k))) (h (2 + k)) (h (8 + k) - 1) (fun i => h (15 + sp i)) n d0 (0 * n) (u1 d1 83 0 0) := by
    rw [Nat.zero_mul]
    refine ⟨fr_u1 I.1 (by decide), ?_, fun t ht => ?_, ?_, fun q hq => absurd hq (Nat.not_lt_zero q)⟩
    · rw [u1_at, if_neg (by omega)]; exact I.2.1
    · rw [u1_at, if_neg (by omega)]; exact I.2.2 t ht
    · rw [u1_at, if_pos ⟨rfl, rfl⟩]; rfl
  have z := c51 V H (by omega) (show h (8 + k) - 1 < tn (h (2 + k)) (h (5 + k)) by omega) hn C W hR sR nR _ (fun d I => c127 V H (by omega) (by omega) hn C W I) R 0 FU _ (by omega) (by unfold FU; omega) I0
  rw [Nat.zero_mul] at z
  exact z
