-- PURE ROWS: the class's branches grow
def BR (d : DD) (first A : Nat) (L : List ((Nat → Nat) × (Nat → Nat → Bool))) : Prop := ∀ i b, L[i]? = some b → d.1 76 (first + i) = nI (pW b.1 A) ∧ ∀ k, k < 3 → d.2 77 (3 * (first + i) + k) = mkL (b.2 k)
def neB (X Y : Nat → Nat → Bool) (k : Nat) : Bool := decide (cnt 64 (fun t => X k t && Y k t) ≠ 0)
def xt (A : Nat) (b : (Nat → Nat) × (Nat → Nat → Bool)) (c : Nat × (Nat → Nat → Bool)) : Option ((Nat → Nat) × (Nat → Nat → Bool)) := if neB b.2 c.2 0 = true ∧ neB b.2 c.2 1 = true ∧ neB b.2 c.2 2 = true then some (upN b.1 A c.1, fun k t => b.2 k t && c.2 k t) else none
theorem neB_iff {X Y : Nat → Nat → Bool} {k : Nat} : neB X Y k = true ↔ ¬ (mkL (fun t => X k t && Y k t) = lN 0) := by
  unfold neB
  rw [mk_eq0, decide_eq_true_iff, ← cnt_0_iff]
theorem e_branchTime {d : DD} {i k : Nat} (h : 3 * i + k < 2343) : f_X8_branchTime (nI i) (nI k) d = some (d.2 77 (3 * i + k), d) := by
  unfold f_X8_branchTime
  rw [e_X9_longAt, ob_e, nI_lit, pk_mul, nI_add, rd2_in (by rw [ln_77]; omega), Nat.mul_comm]
theorem ab14 {d0 : DD} {A : Nat} {b : (Nat → Nat) × (Nat → Nat → Bool)} {c : Nat × (Nat → Nat → Bool)} (hA : A < 4) (hS : ∀ a, b.1 a < 2 ^ 8) (hc : c.1 < 2 ^ 8) {I C B : Nat} (hI : I < B) (hB : B < 781) (hC : C < 8) (h72 : d0.1 72 6 = nI B) (h76 : d0.1 76 I = nI (pW b.1 A)) (h74 : d0.1 74 C = nI c.1) (h77 : ∀ k, k < 3 → d0.2 77 (3 * I + k) = mkL (b.2 k)) (h75 : ∀ k, k < 3 → d0.2 75 (3 * C + k) = mkL (c.2 k)) : ∀ (m k f : Nat) (d : DD), k + m = 3 → m < f → FR [77] d0 d → (∀ i, i < 3 * B → d.2 77 i = d0.2 77 i) → (∀ j, j < k → d.2 77 (3 * B + j) = mkL (fun t => b.2 j t && c.2 j t)) → (∀ j, j < k → neB b.2 c.2 j = true) → OW (f_X8_addBranch_14 f (nI I) (nI C) (nI A) (nI k) d) (fun _ d' => FR [72, 76, 77] d0 d' ∧ (∀ j, j ≠ 6 → d'.1 72 j = d0.1 72 j) ∧ (∀ i, i < B → d'.1 76 i = d0.1 76 i) ∧ (∀ i, i < 3 * B → d'.2 77 i = d0.2 77 i) ∧ (match xt A b c with
    | none => d'.1 72 6 = nI B
    | some b' => d'.1 72 6 = nI (B + 1) ∧ d'.1 76 B = nI (pW b'.1 (A + 1)) ∧ ∀ k, k < 3 → d'.2 77 (3 * B + k) = mkL (b'.2 k))) := by
  intro m
  induction m with
  | zero =>
    intro k f d hi hf F H X Y
    cases f with
    | zero => omega
    | succ f =>
      show OW (f_X8_addBranch_14B (f_X8_addBranch_14 f) _ _ _ _ _) _
      unfold f_X8_addBranch_14B
      have e72 : d.1 72 6 = nI B := by rw [(F 72 (by decide)).1]; exact h72
      have e76 : d.1 76 I = nI (pW b.1 A) := by rw [(F 76 (by decide)).1]; exact h76
      have e74 : d.1 74 C = nI c.1 := by rw [(F 74 (by decide)).1]; exact h74
      rw [if_neg (by rw [nI_lit, nI_ltI (by omega) (by omega)]; omega), e_X9_at, ob_e, e_X9_at, ob_e, rd1_in (by rw [ln_76]; omega), rd1_in (by rw [ln_74]; omega), e76, e74, e72, e_X9_put, ob_e, bd_e, wr1_in (by rw [ln_76]; omega)]
      have sh : nI c.1 <<< ((8 : Int32) * nI A &&& 31) = nI (c.1 * 2 ^ (8 * A)) := by
        rw [show (8 : Int32) = nI 8 from rfl, pk_mul]
        refine pk_shlN _ (8 * A) (s_l _ (by omega)) ?_
        have p1 : 2 ^ (8 * A) ≤ 2 ^ 24 := Nat.pow_le_pow_right (by decide) (by omega)
        calc c.1 * 2 ^ (8 * A) ≤ c.1 * 2 ^ 24 := Nat.mul_le_mul_left _ p1
          _ < 2 ^ 32 := by omega
      dsimp only
      rw [sh, nx_or]
      have ex : xt A b c = some (upN b.1 A c.1, fun k t => b.2 k t && c.2 k t) := if_pos ⟨Y 0 (by omega), Y 1 (by omega), Y 2 (by omega)⟩
      rw [ex]
      refine ow_ret ⟨fr_u1 (fr_u1 (fr_mono F (by decide)) (by decide)) (by decide), ?_, ?_, ?_, ?_, ?_, ?_⟩
      · intro j hj
        rw [u1_at, if_neg (by omega), u1_at, if_neg (by omega), (F 72 (by decide)).1]
      · intro i hi'
        rw [u1_at, if_neg (by omega), u1_at, if_neg (by omega), (F 76 (by decide)).1]
      · intro i hi'
        exact H i hi'
      · rw [u1_at, if_pos ⟨rfl, rfl⟩, u1_at, if_neg (by omega), e72, nI_1]
      · rw [u1_at, if_neg (by omega), u1_at, if_pos ⟨rfl, rfl⟩]
        show _ = nI (pW (upN b.1 A c.1) A ||| upN b.1 A c.1 A * 2 ^ (8 * A))
        rw [upN_same, pW_congr (S := upN b.1 A c.1) (T := b.1) (fun a ha => upN_ne (by omega))]
      · intro k' hk'
        exact X k' (by omega)
  | succ m ih =>
    intro k f d hi hf F H X Y
    cases f with
    | zero => omega
    | succ f =>
      show OW (f_X8_addBranch_14B (f_X8_addBranch_14 f) _ _ _ _ _) _
      unfold f_X8_addBranch_14B
      have e72 : d.1 72 6 = nI B := by rw [(F 72 (by decide)).1]; exact h72
      have e75 : d.2 75 (3 * C + k) = mkL (c.2 k) := by rw [(F 75 (by decide)).2]; exact h75 k (by omega)
      have e77 : d.2 77 (3 * I + k) = mkL (b.2 k) := by rw [H _ (by omega)]; exact h77 k (by omega)
      rw [if_pos (by rw [nI_lit, nI_ltI (by omega) (by omega)]; omega), e_branchTime (by omega), ob_e, e77, e_X9_longAt, ob_e, show (3 : Int32) = nI 3 from rfl, pk_mul, nI_add, rd2_in (by rw [ln_75]; omega), Nat.mul_comm C 3, e75, bd_e, mk_and]
      simp only [lN_lit]
      by_cases q : neB b.2 c.2 k = true
      · rw [if_neg (neB_iff.mp q), e72, pk_mul, nI_add, e_X9_putLong, ob_e, wr2_in (by rw [ln_77]; omega), nI_lit, nI_add, Nat.mul_comm B 3]
        refine ih (k + 1) f _ (by omega) (by omega) (fr_u2 F (by decide)) (fun i hi' => ?_) (fun j hj => ?_) (fun j hj => ?_)
        · rw [u2_at, if_neg (by omega)]
          exact H i hi'
        · rw [u2_at]
          by_cases z : j = k
          · rw [if_pos ⟨rfl, by omega⟩, z]
          · rw [if_neg (by omega)]
            exact X j (by omega)
        · by_cases z : j = k
          · rw [z]; exact q
          · exact Y j (by omega)
      · have q' : mkL (fun t => b.2 k t && c.2 k t) = lN 0 := by
          by_cases z : mkL (fun t => b.2 k t && c.2 k t) = lN 0
          · exact z
          · exact absurd (neB_iff.mpr z) q
        rw [if_pos q']
        have ex : xt A b c = none := by
          unfold xt
          rw [if_neg]
          rintro ⟨h0, h1, h2⟩
          have : k = 0 ∨ k = 1 ∨ k = 2 := by omega
          rcases this with rfl | rfl | rfl
          · exact q h0
          · exact q h1
          · exact q h2
        rw [ex]
        exact ow_ret ⟨fr_mono F (by decide), fun j _ => by rw [(F 72 (by decide)).1], fun i _ => by rw [(F 76 (by decide)).1], H, e72⟩
theorem e_addBranch {d : DD} {A : Nat} {b : (Nat → Nat) × (Nat → Nat → Bool)} {c : Nat × (Nat → Nat → Bool)} (hA : A < 4) (hS : ∀ a, b.1 a < 2 ^ 8) (hc : c.1 < 2 ^ 8) {I C B : Nat} (hI : I < B) (hB : B ≤ 781) (hB2 : xt A b c ≠ none → B < 781) (hC : C < 8) (h72 : d.1 72 6 = nI B) (h76 : d.1 76 I = nI (pW b.1 A)) (h74 : d.1 74 C = nI c.1) (h77 : ∀ k, k < 3 → d.2 77 (3 * I + k) = mkL (b.2 k)) (h75 : ∀ k, k < 3 → d.2 75 (3 * C + k) = mkL (c.2 k)) : OW (f_X8_addBranch (nI I) (nI C) (nI A) d) (fun _ d' => FR [72, 76, 77] d d' ∧ (∀ j, j ≠ 6 → d'.1 72 j = d.1 72 j) ∧ (∀ i, i < B → d'.1 76 i = d.1 76 i) ∧ (∀ i, i < 3 * B → d'.2 77 i = d.2 77 i) ∧ (match xt A b c with
    | none => d'.1 72 6 = nI B
    | some b' => d'.1 72 6 = nI (B + 1) ∧ d'.1 76 B = nI (pW b'.1 (A + 1)) ∧ ∀ k, k < 3 → d'.2 77 (3 * B + k) = mkL (b'.2 k))) := by
  unfold f_X8_addBranch
  rw [h72]
  by_cases q : B < 781
  · rw [if_pos (by rw [nI_lit, nI_ltI (by omega) (by omega)]; exact q)]
    exact ab14 hA hS hc hI q hC h72 h76 h74 h77 h75 3 0 FU d (by omega) (by unfold FU; omega) (fr_refl _ _) (fun _ _ => rfl) (fun j hj => by omega) (fun j hj => by omega)
  · rw [if_neg (by rw [nI_lit, nI_ltI (by omega) (by omega)]; exact q)]
    have ex : xt A b c = none := by
      cases z : xt A b c with
      | none => rfl
      | some b' => exact absurd (hB2 (by rw [z]; simp)) q
    rw [ex]
    exact ow_ret ⟨fr_refl _ _, fun _ _ => rfl, fun _ _ => rfl, fun _ _ => rfl, h72⟩
def nl (A : Nat) (C : List (Nat × (Nat → Nat → Bool))) (L : List ((Nat → Nat) × (Nat → Nat → Bool))) : List ((Nat → Nat) × (Nat → Nat → Bool)) := L.flatMap (fun b => C.filterMap (xt A b))
def SB (L : List ((Nat → Nat) × (Nat → Nat → Bool))) : Prop := ∀ b, b ∈ L → ∀ a, b.1 a < 2 ^ 8
theorem getsome {α : Type} {L : List α} {i : Nat} {b : α} (h : L[i]? = some b) : i < L.length := by
  rcases Nat.lt_or_ge i L.length with z | z
  · exact z
  · rw [List.getElem?_eq_none z] at h; cases h
theorem drop_cons {α : Type} {L : List α} {i : Nat} {b : α} (h : L[i]? = some b) : L.drop i = b :: L.drop (i + 1) := by
  have hi := getsome h
  rw [List.drop_eq_getElem_cons hi]
  rw [List.getElem?_eq_getElem hi] at h
  injection h with h
  rw [h]
def BI (d0 d : DD) (first A : Nat) (C : List (Nat × (Nat → Nat → Bool))) (L N : List ((Nat → Nat) × (Nat → Nat → Bool))) : Prop := FR [72, 76, 77] d0 d ∧ (∀ j, j ≠ 6 → d.1 72 j = d0.1 72 j) ∧ BR d first A L ∧ BR d (first + L.length) (A + 1) N ∧ d.1 72 6 = nI (first + L.length + N.length)
theorem bo18 {d0 : DD} {A first : Nat} {C : List (Nat × (Nat → Nat → Bool))} {L : List ((Nat → Nat) × (Nat → Nat → Bool))} (hA : A < 4) (hS : SB L) (hC8 : C.length ≤ 8) (hc : ∀ c, c ∈ C → c.1 < 2 ^ 8) (hCD : CD d0 C) (hR : first + L.length + (nl A C L).length ≤ 781) (last : Int32) (k10 : Int32 → Int32 → Int32 → DD → Option (Unit × DD)) (Q : Unit → DD → Prop) {i : Nat} {b : (Nat → Nat) × (Nat → Nat → Bool)} (hi : L[i]? = some b) (K : ∀ d, BI d0 d first A C L (nl A C (L.take (i + 1))) → OW (k10 (nI A) last (nI (first + i + 1)) d) Q) : ∀ (m c f : Nat) (d : DD), c + m = C.length → m < f → BI d0 d first A C L (nl A C (L.take i) ++ (C.take c).filterMap (xt A b)) → OW (f_X8_branchOut_18 k10 f (nI A) last (nI (first + i)) (nI c) d) Q := by
  have hil := getsome hi
  have et : nl A C (L.take (i + 1)) = nl A C (L.take i) ++ C.filterMap (xt A b) := by
    rw [List.take_add_one, hi]
    unfold nl
    rw [List.flatMap_append]
    simp
  intro m
  induction m with
  | zero =>
    intro c f d hm hf I
    cases f with
    | zero => omega
    | succ f =>
      show OW (f_X8_branchOut_18B k10 (f_X8_branchOut_18 k10 f) _ _ _ _ _) Q
      unfold f_X8_branchOut_18B
      have e : c = C.length := by omega
      subst e
      rw [I.2.1 2 (by decide), hCD.1, if_neg (by rw [nI_ltI (by omega) (by omega)]; omega), nI_1]
      rw [List.take_length, ← et] at I
      exact K d I
  | succ m ih =>
    intro c f d hm hf I
    cases f with
    | zero => omega
    | succ f =>
      show OW (f_X8_branchOut_18B k10 (f_X8_branchOut_18 k10 f) _ _ _ _ _) Q
      unfold f_X8_branchOut_18B
      obtain ⟨I1, I2, I3, I4, I5⟩ := I
      have hcl : c < C.length := by omega
      have ec : C[c]? = some C[c] := List.getElem?_eq_getElem hcl
      have hcm : C[c] ∈ C := List.getElem_mem hcl
      have cd := hCD.2 c _ ec
      have bm : b ∈ L := List.mem_of_getElem? hi
      have tk : C.take (c + 1) = C.take c ++ [C[c]] := by
        rw [List.take_add_one, ec]
        rfl
      have lens : (nl A C (L.take i) ++ (C.take (c + 1)).filterMap (xt A b)).length ≤ (nl A C L).length := by
        have e1 : L = L.take i ++ b :: L.drop (i + 1) := by
          rw [← drop_cons hi, List.take_append_drop]
        have e2 : nl A C L = nl A C (L.take i) ++ (C.filterMap (xt A b) ++ nl A C (L.drop (i + 1))) := by
          conv => lhs; rw [e1]
          unfold nl
          rw [List.flatMap_append, List.flatMap_cons]
        have e3 : C = C.take (c + 1) ++ C.drop (c + 1) := (List.take_append_drop _ _).symm
        have e4 : C.filterMap (xt A b) = (C.take (c + 1)).filterMap (xt A b) ++ (C.drop (c + 1)).filterMap (xt A b) := by
          conv => lhs; rw [e3]
          rw [List.filterMap_append]
        rw [e2, e4, List.length_append, List.length_append, List.length_append, List.length_append]
        omega
      rw [tk, List.filterMap_append, ← List.append_assoc] at lens
      have hlen := lens
      rw [List.length_append] at hlen
      rw [I2 2 (by decide), hCD.1, if_pos (by rw [nI_ltI (by omega) (by omega)]; exact hcl)]
      refine ow_call (e_addBranch (b := b) (c := C[c]) (I := first + i) (C := c) hA (hS b bm) (hc _ hcm) (by omega) (by omega) ?_ (by omega) I5 (I3 i b hi).1 (by rw [(I1 74 (by decide)).1]; exact cd.1) (I3 i b hi).2 (fun k hk => by rw [(I1 75 (by decide)).2]; exact cd.2 k hk)) ?_
      · intro hx
        cases z : xt A b C[c] with
        | none => exact absurd z hx
        | some b' =>
          have e5 : ([C[c]].filterMap (xt A b)).length = 1 := by
            rw [List.filterMap_cons, z]
            rfl
          omega
      · intro _ d' H
        obtain ⟨h1, h2, h3, h4, h5⟩ := H
        rw [nI_1]
        refine ih (c + 1) f d' (by omega) (by omega) ?_
        rw [tk, List.filterMap_append, ← List.append_assoc]
        have J3 : BR d' first A L := fun j b' e => by
          have hj := getsome e
          refine ⟨by rw [h3 _ (by omega)]; exact (I3 j b' e).1, fun k hk => ?_⟩
          rw [h4 _ (by omega)]
          exact (I3 j b' e).2 k hk
        have J4 : BR d' (first + L.length) (A + 1) (nl A C (L.take i) ++ (C.take c).filterMap (xt A b)) := fun j b' e => by
          have hj := getsome e
          refine ⟨by rw [h3 _ (by omega)]; exact (I4 j b' e).1, fun k hk => ?_⟩
          rw [h4 _ (by omega)]
          exact (I4 j b' e).2 k hk
        refine ⟨fr_trans I1 h1, fun j hj => by rw [h2 j hj, I2 j hj], J3, ?_, ?_⟩
        · cases z : xt A b C[c] with
          | none =>
            have e5 : [C[c]].filterMap (xt A b) = [] := by
              rw [List.filterMap_cons, z]
              rfl
            rw [e5, List.append_nil]
            exact J4
          | some b' =>
            have e5 : [C[c]].filterMap (xt A b) = [b'] := by
              rw [List.filterMap_cons, z]
              rfl
            rw [e5]
            rw [z] at h5
            intro j b'' e
            rcases Nat.lt_trichotomy j (nl A C (L.take i) ++ (C.take c).filterMap (xt A b)).length with q | q | q
            · rw [List.getElem?_append_left q] at e
              exact J4 j b'' e
            · rw [List.getElem?_append_right (by omega), q, Nat.sub_self] at e
              have e6 : some b' = some b'' := e
              injection e6 with e6
              subst e6
              rw [q]
              exact h5.2
            · rw [List.getElem?_eq_none (by rw [List.length_append, List.length_singleton]; omega)] at e
              cases e
        · cases z : xt A b C[c] with
          | none =>
            have e5 : [C[c]].filterMap (xt A b) = [] := by
              rw [List.filterMap_cons, z]
              rfl
            rw [e5, List.append_nil]
            rw [z] at h5
            exact h5
          | some b' =>
            have e5 : [C[c]].filterMap (xt A b) = [b'] := by
              rw [List.filterMap_cons, z]
              rfl
            rw [e5, List.length_append, List.length_singleton]
            rw [z] at h5
            exact h5.1
theorem bo10 {d0 : DD} {A first : Nat} {C : List (Nat × (Nat → Nat → Bool))} {L : List ((Nat → Nat) × (Nat → Nat → Bool))} (hA : A < 4) (hS : SB L) (hC8 : C.length ≤ 8) (hc : ∀ c, c ∈ C → c.1 < 2 ^ 8) (hCD : CD d0 C) (hR : first + L.length + (nl A C L).length ≤ 781) : ∀ (m i f : Nat) (d : DD), i + m = L.length → m < f → BI d0 d first A C L (nl A C (L.take i)) → OW (f_X8_branchOut_10 f (nI A) (nI (first + L.length)) (nI (first + i)) d) (fun _ d' => FR [72, 76, 77] d0 d' ∧ (∀ j, j ≠ 6 → j ≠ 5 → d'.1 72 j = d0.1 72 j) ∧ BR d' (first + L.length) (A + 1) (nl A C L) ∧ d'.1 72 5 = nI (first + L.length) ∧ d'.1 72 6 = nI (first + L.length + (nl A C L).length)) := by
  intro m
  induction m with
  | zero =>
    intro i f d hm hf I
    cases f with
    | zero => omega
    | succ f =>
      show OW (f_X8_branchOut_10B (f_X8_branchOut_10 f) _ _ _ _) _
      unfold f_X8_branchOut_10B
      have e : i = L.length := by omega
      subst e
      rw [if_neg (by rw [nI_ltI (by omega) (by omega)]; omega), bd_e]
      rw [List.take_length] at I
      obtain ⟨I1, I2, I3, I4, I5⟩ := I
      refine ow_ret ⟨fr_u1 I1 (by decide), fun j h6 h5 => ?_, ?_, ?_, ?_⟩
      · rw [u1_at, if_neg (by omega), I2 j h6]
      · intro j b e
        rw [u1_at, if_neg (by omega)]
        exact I4 j b e
      · rw [u1_at, if_pos ⟨rfl, rfl⟩]
      · rw [u1_at, if_neg (by omega)]
        exact I5
  | succ m ih =>
    intro i f d hm hf I
    cases f with
    | zero => omega
    | succ f =>
      show OW (f_X8_branchOut_10B (f_X8_branchOut_10 f) _ _ _ _) _
      unfold f_X8_branchOut_10B
      have hil : i < L.length := by omega
      rw [if_pos (by rw [nI_ltI (by omega) (by omega)]; omega)]
      refine bo18 hA hS hC8 hc hCD hR _ _ _ (List.getElem?_eq_getElem hil) (fun d' I' => ih (i + 1) f d' (by omega) (by omega) I') C.length 0 FU d (by omega) (by unfold FU; omega) ?_
      rw [List.take_zero, List.filterMap_nil, List.append_nil]
      exact I
theorem e_branchOut {d : DD} {A first : Nat} {C : List (Nat × (Nat → Nat → Bool))} {L : List ((Nat → Nat) × (Nat → Nat → Bool))} (hA : A < 4) (hS : SB L) (hC8 : C.length ≤ 8) (hc : ∀ c, c ∈ C → c.1 < 2 ^ 8) (hCD : CD d C) (hR : first + L.length + (nl A C L).length ≤ 781) (h5 : d.1 72 5 = nI first) (h6 : d.1 72 6 = nI (first + L.length)) (hB : BR d first A L) : OW (f_X8_branchOut (nI A) d) (fun _ d' => FR [72, 76, 77] d d' ∧ (∀ j, j ≠ 6 → j ≠ 5 → d'.1 72 j = d.1 72 j) ∧ BR d' (first + L.length) (A + 1) (nl A C L) ∧ d'.1 72 5 = nI (first + L.length) ∧ d'.1 72 6 = nI (first + L.length + (nl A C L).length)) := by
  unfold f_X8_branchOut
  rw [bd_e, bd_e, h5, h6]
  refine bo10 hA hS hC8 hc hCD hR L.length 0 FU d (by omega) (by unfold FU; omega) ⟨fr_refl _ _, fun _ _ => rfl, hB, ?_, h6⟩
  intro i b e
  cases e
