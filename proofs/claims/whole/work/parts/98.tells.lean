-- PURE ROWS: tellings, whole
theorem tl_l {G : TX} {T : Nat} {h : Nat → Nat} {nm : Nat → Int64} {c0 m0 : DD} (X : VX G) (V : VH h) (H : HC 2 c0 h nm) (M0 : HM m0 h) (N : ∀ k, k < 7 → m0.2 92 k = nm k) (W : RW m0) : ∀ (n j k f f' : Nat) (w : Nat → Nat) (c m : DD), T ≤ j + n → n + 1 < f → n + 1 < f' → TLI G T h c0 m0 j k w c m → ∃ rc c', f_X6_readAll_10 2 f (nI k) c = some (rc, c') ∧ ((rc = (-1 : Int32) ∧ ∃ m', f_X10_tellings_26 f' m = some ((-1 : Int32) - m'.1 86 17, m') ∧ FLT c0 m0 c' m') ∨ ∃ k' j' w' m', rc = nI k' ∧ f_X10_tellings_26 f' m = f_X10_tellings_83 FU 0 (u1 m' 88 169 (nI k')) ∧ TLI G T h c0 m0 j' k' w' c' m') := by
  intro n
  induction n with
  | zero =>
    intro j k f f' w c m hn hf hf' I
    obtain ⟨f, rfl⟩ : ∃ f1, f = f1 + 1 := ⟨f - 1, by omega⟩
    obtain ⟨f', rfl⟩ : ∃ f1, f' = f1 + 1 := ⟨f' - 1, by omega⟩
    have C := I.2.2.1
    have M := I.2.2.2.1
    have k40 := I.2.2.2.2.2.2.1
    have c66 := I.2.2.2.2.2.2.2.1
    have m23 := I.2.2.2.2.2.2.2.2.1
    have hjT := C.2.2.1
    have hT := C.2.2.2.1
    have L940 : nI k < (940 : Int32) := (nI_ltI (b := 940) (by omega) (by omega)).mpr (by omega)
    by_cases s : so G j = 0
    · refine ⟨nI k, c, ?_, Or.inr ⟨k, j, w, m, rfl, ?_, I⟩⟩
      · show f_X6_readAll_10B 2 (f_X6_readAll_10 2 f) _ _ = _
        unfold f_X6_readAll_10B
        rw [if_pos L940, e_sort C, ob_e, if_pos (show nI (so G j) = 0 by rw [s]; rfl)]
        dsimp only
        rw [c66]
      · show f_X10_tellings_26B (f_X10_tellings_26 f') _ = _
        unfold f_X10_tellings_26B
        rw [if_pos ((ms_z M).mpr s), if_pos e169, bd_e, m23]
        rfl
    · obtain ⟨r, c', m', ec, alt⟩ := l_tell X V H M0 N W I
      rcases alt with ⟨rfl, om, F⟩ | ⟨rfl, om, j', t', I', hj', e20⟩
      · refine ⟨-1, c', ?_, Or.inl ⟨rfl, m', ?_, F⟩⟩
        · show f_X6_readAll_10B 2 (f_X6_readAll_10 2 f) _ _ = _
          unfold f_X6_readAll_10B
          rw [if_pos L940, e_sort C, ob_e, if_neg (show ¬ nI (so G j) = 0 from fun z => s ((so_eq (s := 0) (by omega)).mp z))]
          dsimp only
          rw [ec, ob_e, if_pos rfl]
        · show f_X10_tellings_26B (f_X10_tellings_26 f') _ = _
          unfold f_X10_tellings_26B
          rw [if_neg (fun z => s ((ms_z M).mp z))]
          rcases om with om | ⟨m1, om, sg⟩
          · rw [om, ob_e, if_pos rfl]
          · rw [om, ob_e]
            dsimp only
            rw [if_neg (show ¬ (1 : Int32) = 0 by decide), sg, ob_e, if_pos rfl]
      · have := I'.2.2.1.2.2.1
        omega
  | succ n ih =>
    intro j k f f' w c m hn hf hf' I
    obtain ⟨f, rfl⟩ : ∃ f1, f = f1 + 1 := ⟨f - 1, by omega⟩
    obtain ⟨f', rfl⟩ : ∃ f1, f' = f1 + 1 := ⟨f' - 1, by omega⟩
    have C := I.2.2.1
    have M := I.2.2.2.1
    have k40 := I.2.2.2.2.2.2.1
    have c66 := I.2.2.2.2.2.2.2.1
    have m23 := I.2.2.2.2.2.2.2.2.1
    have hjT := C.2.2.1
    have hT := C.2.2.2.1
    have L940 : nI k < (940 : Int32) := (nI_ltI (b := 940) (by omega) (by omega)).mpr (by omega)
    by_cases s : so G j = 0
    · refine ⟨nI k, c, ?_, Or.inr ⟨k, j, w, m, rfl, ?_, I⟩⟩
      · show f_X6_readAll_10B 2 (f_X6_readAll_10 2 f) _ _ = _
        unfold f_X6_readAll_10B
        rw [if_pos L940, e_sort C, ob_e, if_pos (show nI (so G j) = 0 by rw [s]; rfl)]
        dsimp only
        rw [c66]
      · show f_X10_tellings_26B (f_X10_tellings_26 f') _ = _
        unfold f_X10_tellings_26B
        rw [if_pos ((ms_z M).mpr s), if_pos e169, bd_e, m23]
        rfl
    · obtain ⟨r, c', m', ec, alt⟩ := l_tell X V H M0 N W I
      rcases alt with ⟨rfl, om, F⟩ | ⟨rfl, ⟨m1, om, sg⟩, j', w', I', hj', e23⟩
      · refine ⟨-1, c', ?_, Or.inl ⟨rfl, m', ?_, F⟩⟩
        · show f_X6_readAll_10B 2 (f_X6_readAll_10 2 f) _ _ = _
          unfold f_X6_readAll_10B
          rw [if_pos L940, e_sort C, ob_e, if_neg (show ¬ nI (so G j) = 0 from fun z => s ((so_eq (s := 0) (by omega)).mp z))]
          dsimp only
          rw [ec, ob_e, if_pos rfl]
        · show f_X10_tellings_26B (f_X10_tellings_26 f') _ = _
          unfold f_X10_tellings_26B
          rw [if_neg (fun z => s ((ms_z M).mp z))]
          rcases om with om | ⟨m1, om, sg⟩
          · rw [om, ob_e, if_pos rfl]
          · rw [om, ob_e]
            dsimp only
            rw [if_neg (show ¬ (1 : Int32) = 0 by decide), sg, ob_e, if_pos rfl]
      · obtain ⟨rc, c'', e1, e2⟩ := ih j' (k + 1) f f' w' c' _ (by omega) (by omega) (by omega) I'
        have step : f_X10_tellings_26 (f' + 1) m = f_X10_tellings_26 f' (u1 m' 86 23 (nI (k + 1))) := by
          show f_X10_tellings_26B (f_X10_tellings_26 f') _ = _
          unfold f_X10_tellings_26B
          rw [if_neg (fun z => s ((ms_z M).mp z)), om, ob_e]
          dsimp only
          rw [if_neg (show ¬ (1 : Int32) = 0 by decide), sg, ob_e]
          dsimp only
          rw [if_neg (show ¬ (1 : Int32) = 0 by decide), e23, nI_1, bd_e]
        refine ⟨rc, c'', ?_, ?_⟩
        · show f_X6_readAll_10B 2 (f_X6_readAll_10 2 f) _ _ = _
          unfold f_X6_readAll_10B
          rw [if_pos L940, e_sort C, ob_e, if_neg (show ¬ nI (so G j) = 0 from fun z => s ((so_eq (s := 0) (by omega)).mp z))]
          dsimp only
          rw [ec, ob_e, if_neg (show ¬ (1 : Int32) = 0 by decide), nI_1]
          exact e1
        · rw [step]
          exact e2
theorem mt83 {mA : DD} {k : Nat} (hk : k ≤ 40) (h23 : mA.1 86 23 = nI k) : ∀ (n u f : Nat) (m : DD), u + n = 3 * k → n < f → FR [88] mA m → (∀ j, m.1 88 j = if 170 ≤ j ∧ j < 170 + u then mA.1 90 (j - 170) else mA.1 88 j) → OW (f_X10_tellings_83 f (nI u) m) (fun r m' => r = nI k ∧ FR [88] mA m' ∧ ∀ j, m'.1 88 j = if 170 ≤ j ∧ j < 170 + 3 * k then mA.1 90 (j - 170) else mA.1 88 j) := by
  intro n
  induction n with
  | zero =>
    intro u f m hu hf F h88
    obtain ⟨f, rfl⟩ : ∃ f', f = f' + 1 := ⟨f - 1, by omega⟩
    show OW (f_X10_tellings_83B (f_X10_tellings_83 f) _ _) _
    unfold f_X10_tellings_83B
    have e : u = 3 * k := by omega
    subst e
    have m23 : m.1 86 23 = nI k := by rw [(F 86 (by decide)).1]; exact h23
    rw [m23, show (3 : Int32) * nI k = nI (3 * k) from by rw [show (3 : Int32) = nI 3 from rfl, pk_mul], if_neg (by rw [nI_ltI (by omega) (by omega)]; omega)]
    exact ow_ret ⟨rfl, F, h88⟩
  | succ n ih =>
    intro u f m hu hf F h88
    obtain ⟨f, rfl⟩ : ∃ f', f = f' + 1 := ⟨f - 1, by omega⟩
    show OW (f_X10_tellings_83B (f_X10_tellings_83 f) _ _) _
    unfold f_X10_tellings_83B
    have m23 : m.1 86 23 = nI k := by rw [(F 86 (by decide)).1]; exact h23
    rw [m23, show (3 : Int32) * nI k = nI (3 * k) from by rw [show (3 : Int32) = nI 3 from rfl, pk_mul], if_pos (by rw [nI_ltI (by omega) (by omega)]; omega), if_pos ((ix_nI (by omega)).mpr (by rw [ln_90]; omega)), show (170 : Int32) + nI u = nI (170 + u) from by rw [show (170 : Int32) = nI 170 from rfl, nI_add], if_pos ((ix_nI (by omega)).mpr (by rw [ln_88]; omega)), nI_clamp (by omega), nI_clamp (by omega), bd_e, nI_1, (F 90 (by decide)).1]
    refine ih (u + 1) f _ (by omega) (by omega) (fr_u1 F (by decide)) (fun j => ?_)
    rw [u1_at]
    by_cases c : j = 170 + u
    · rw [if_pos ⟨rfl, c⟩, if_pos (by omega), c, show 170 + u - 170 = u by omega]
    · rw [if_neg (fun z => c z.2), h88 j]
      by_cases c2 : 170 ≤ j ∧ j < 170 + u
      · rw [if_pos c2, if_pos (by omega)]
      · rw [if_neg c2, if_neg (by omega)]
theorem mt_start {g : Nat → Nat} {n : Nat} {e : DD} (X : VX (g, n, 600)) (t2 : e.1 86 2 = nI n) (gm : ∀ i, i < n → e.1 87 i &&& 255 = nI (g i)) : ∃ mS, f_X10_tellings e = f_X10_tellings_26 FU mS ∧ MF (Bq e 600 23) mS ∧ MS (g, n, 600) mS 0 ∧ mS.1 86 16 = nI 0 ∧ mS.1 86 23 = nI 0 := by
  obtain ⟨B, b4⟩ := bq_bm (mo := 600) (q := 23) (by omega) t2 gm
  obtain ⟨m2, e2, S2, T2⟩ := e_skip X B (p := 0) b4 (Nat.zero_le _)
  refine ⟨m2, ?_, mf_sk S2, ⟨bm_sk B S2, T2⟩, ?_, ?_⟩
  · have q : f_X10_tellings e = (f_X10_skip (Bq e 600 23)).bind fun q5 => f_X10_tellings_26 FU q5.2 := by
      unfold f_X10_tellings
      rw [bd_e, e_X10_taken, ob_e]
      dsimp only
      rw [bd_e, bd_e]
      rfl
    rw [q, e2, ob_e]
  · rw [S2.2 16 (by decide), bq_16 (by omega)]
  · rw [S2.2 23 (by decide), bq_q]
def hW (h w : Nat → Nat) (k : Nat) : Nat → Nat := fun j => if j = 169 then k else if 170 ≤ j ∧ j < 170 + 3 * k then w (j - 170) else h j
theorem hW_lo {h w : Nat → Nat} {k j : Nat} (hj : j < 169) : hW h w k j = h j := by
  unfold hW
  rw [if_neg (by omega), if_neg (by omega)]
theorem hW_k {h w : Nat → Nat} {k : Nat} : hW h w k 169 = k := if_pos rfl
theorem hW_t {h w : Nat → Nat} {k q : Nat} (hq : q < 3 * k) : hW h w k (170 + q) = w q := by
  unfold hW
  rw [if_neg (by omega), if_pos (by omega), show 170 + q - 170 = q by omega]
def cpT (c : DD) : DD := cpy1 (cpy1 (cpy1 (u1 c 12 0 (c.1 66 0)) 67 13 0 40) 68 14 0 40) 69 15 0 40
theorem e_cpT (c : DD) : f_X5_copyFrom 12 66 c = some ((), cpT c) := by
  unfold f_X5_copyFrom cpT
  rw [bd_e, rf_66_1, rf_66_2, rf_66_3, rf_12_1, rf_12_2, rf_12_3, e_X9_copyRow (by decide), ob_e, e_X9_copyRow (by decide), ob_e, e_X9_copyRow (by decide), ob_e, ln_67, ln_68, ln_69, ln_13, ln_14, ln_15]
  rfl
theorem cpT_o {c : DD} {a : Nat} (ha : a ∉ [12, 13, 14, 15]) : (cpT c).1 a = c.1 a ∧ (cpT c).2 a = c.2 a := by
  simp only [List.mem_cons, List.not_mem_nil, or_false] at ha
  refine ⟨?_, rfl⟩
  unfold cpT
  funext i
  rw [cpy1_at, if_neg (by omega), cpy1_at, if_neg (by omega), cpy1_at, if_neg (by omega), u1_at, if_neg (by omega)]
theorem cpT_12 (c : DD) : (cpT c).1 12 0 = c.1 66 0 := by
  unfold cpT
  rw [cpy1_at, if_neg (by omega), cpy1_at, if_neg (by omega), cpy1_at, if_neg (by omega), u1_at, if_pos ⟨rfl, rfl⟩]
theorem cpT_t {c : DD} {i : Nat} (hi : i < 40) : (cpT c).1 13 i = c.1 67 i ∧ (cpT c).1 14 i = c.1 68 i ∧ (cpT c).1 15 i = c.1 69 i := by
  unfold cpT
  refine ⟨?_, ?_, ?_⟩
  · rw [cpy1_at, if_neg (by omega), cpy1_at, if_neg (by omega), cpy1_at, if_pos ⟨rfl, Nat.zero_le _, hi⟩, u1_at, if_neg (by omega)]
  · rw [cpy1_at, if_neg (by omega), cpy1_at, if_pos ⟨rfl, Nat.zero_le _, hi⟩, cpy1_at, if_neg (by omega), u1_at, if_neg (by omega)]
  · rw [cpy1_at, if_pos ⟨rfl, Nat.zero_le _, hi⟩, cpy1_at, if_neg (by omega), cpy1_at, if_neg (by omega), u1_at, if_neg (by omega)]
theorem s_tellings {d : DD} (R : RZ d) : EQR f_X9_tellings f_X10_tellings d := by
  have RR := R
  obtain ⟨⟨h, V, RH1⟩, TPd, R3, R4, R5, RWd⟩ := R
  obtain ⟨n, g, hn, hg, t1, t2, gc, gm⟩ := tp_g TPd
  have v0 := V.1
  have v1 := V.2.1
  have X : VX (g, n, 600) := ⟨hg, hn, by show 600 ≤ 940; omega⟩
  obtain ⟨_, cA, eA, FA', kA, T, CA⟩ := e_begin (G := (g, n, 600)) (d := d) X gc
  have FcB : CFR d (u1 cA 66 0 0) := fun a ha => by
    have n1 : a ∉ [44, 45, 46, 47, 48] := by
      simp only [List.mem_cons, List.not_mem_nil, or_false]
      omega
    refine ⟨?_, (FA' a n1).2⟩
    rw [← (FA' a n1).1]
    funext i
    rw [u1_at, if_neg (by omega)]
  have CB : CUR (g, n, 600) T 0 (u1 cA 66 0 0) := cur_keep CA (by funext i; rw [u1_at, if_neg (by omega)]) (by funext i; rw [u1_at, if_neg (by omega)]) rfl (by rw [u1_at, if_neg (by omega)])
  have kB : (u1 cA 66 0 0).1 44 2 = nI 0 := by rw [u1_at, if_neg (by omega)]; exact kA
  have hT := CB.2.2.2.1
  have run : ∀ e : DD, e.1 86 2 = nI n → (∀ i, i < n → e.1 87 i &&& 255 = nI (g i)) → HM e h → (∀ k, k < 7 → e.2 92 k = d.2 92 k) → RW e → ∃ rc c', f_X6_readAll_10 2 FU (nI 0) (u1 cA 66 0 0) = some (rc, c') ∧ ((rc = (-1 : Int32) ∧ ∃ m', f_X10_tellings e = some ((-1 : Int32) - m'.1 86 17, m') ∧ FLT d (Bq e 600 23) c' m') ∨ ∃ k' j' w' m', rc = nI k' ∧ f_X10_tellings e = f_X10_tellings_83 FU 0 (u1 m' 88 169 (nI k')) ∧ TLI (g, n, 600) T h d (Bq e 600 23) j' k' w' c' m') := by
    intro e e2 egm eM eN eW
    obtain ⟨mS, q1, q2, q3, q4, q5⟩ := mt_start X e2 egm
    have bM : HM (Bq e 600 23) h := hm_keep eM (bq_1 (by decide)) (bq_1 (by decide)) (bq_1 (by decide))
    have bW : RW (Bq e 600 23) := rw_cong eW rfl
    have I0 : TLI (g, n, 600) T h d (Bq e 600 23) 0 0 (fun _ => 0) (u1 cA 66 0 0) mS := ⟨FcB, q2, CB, q3, kB, q4, Nat.zero_le _, by rw [u1_at, if_pos ⟨rfl, rfl⟩]; rfl, q5, fun q hq => absurd hq (by omega), fun i hi => absurd hi (Nat.not_lt_zero i)⟩
    rw [q1]
    exact tl_l X V RH1.1 bM eN bW T 0 0 FU FU _ _ mS (by omega) (by unfold FU; omega) (by unfold FU; omega) I0
  have cls : ∀ rc c', f_X6_readAll_10 2 FU (nI 0) (u1 cA 66 0 0) = some (rc, c') → f_X9_tellings d = if rc = (-1 : Int32) then f_X9_tellings_52 rc c' else (f_X5_copyFrom 12 66 c').bind fun q4 => f_X9_tellings_52 rc q4.2 := by
    intro rc c' ec
    unfold f_X9_tellings
    rw [t1, show f_X0_begin 1 (nI n) (600 : Int32) d = _ from eA, ob_e]
    dsimp only
    unfold f_X6_readAll
    rw [bd_e, show f_X6_readAll_10 2 FU (0 : Int32) (u1 cA 66 0 0) = _ from ec, ob_e]
  obtain ⟨rc, cf, ec, alt⟩ := run d t2 gm RH1.2 (fun _ _ => rfl) RWd
  rcases alt with ⟨rfl, md, _, Fd⟩ | ⟨L, jd, wd, md, rfl, _, Id⟩
  · have Fcf : CFR d cf := Fd.1
    have E : EF d (u1 (u1 cf 0 1 0) 0 2 (cf.1 44 2)) (cf.1 44 2) [] := ef_end (fun a _ ha => Fcf a ha) List.not_mem_nil
    have k86 := (E.1 86 (by decide) List.not_mem_nil (by omega)).1
    obtain ⟨rc', cf', ec', alt'⟩ := run (u1 (u1 cf 0 1 0) 0 2 (cf.1 44 2)) (by rw [k86]; exact t2) (fun i hi => by rw [(E.1 87 (by decide) List.not_mem_nil (by omega)).1]; exact gm i hi) (hm_keep RH1.2 (E.1 88 (by decide) List.not_mem_nil (by omega)).1 (E.1 94 (by decide) List.not_mem_nil (by omega)).1 (E.1 95 (by decide) List.not_mem_nil (by omega)).1) (fun k _ => by rw [(E.1 92 (by decide) List.not_mem_nil (by omega)).2]) (rw_cong RWd (E.1 93 (by decide) List.not_mem_nil (by omega)).2)
    rw [ec] at ec'
    injection ec' with ec'
    injection ec' with y1 y2
    subst y1
    subst y2
    rcases alt' with ⟨_, m', em, _, Fm, k, p, hp, x1, x2, x3, x4⟩ | ⟨L', _, _, _, z, _, I'⟩
    · refine ⟨(-1 : Int32) - cf.1 44 3, u1 (u1 cf 0 1 0) 0 2 (cf.1 44 2), m', ?_, ?_, ?_⟩
      · rw [cls _ _ ec, if_pos rfl]
        unfold f_X9_tellings_52
        rw [e_endB, ob_e]
      · rw [em, x4, x2]
      · exact rz_er RR (er_mf (fun a ha => absurd ha List.not_mem_nil) E (Or.inr rfl) Fm (by rw [x3, x1])) ⟨h, V, rh_flt V RH1 E Fm⟩
    · have := I'.2.2.2.2.2.2.1
      exact absurd z.symm (nI_nm (by omega))
  · obtain ⟨Fcf, _, _, _, kf, _, hL, _, _, _, _⟩ := Id
    have E : EF d (u1 (u1 (cpT cf) 0 1 0) 0 2 (nI 0)) (nI 0) [12, 13, 14, 15] := ef_end (fun a hS ha => by
      obtain ⟨x1, x2⟩ := Fcf a ha
      obtain ⟨y1, y2⟩ := cpT_o (c := cf) hS
      exact ⟨y1.trans x1, y2.trans x2⟩) (by decide)
    have k86 := (E.1 86 (by decide) (by decide) (by omega)).1
    obtain ⟨rc', cf', ec', alt'⟩ := run (u1 (u1 (cpT cf) 0 1 0) 0 2 (nI 0)) (by rw [k86]; exact t2) (fun i hi => by rw [(E.1 87 (by decide) (by decide) (by omega)).1]; exact gm i hi) (hm_keep RH1.2 (E.1 88 (by decide) (by decide) (by omega)).1 (E.1 94 (by decide) (by decide) (by omega)).1 (E.1 95 (by decide) (by decide) (by omega)).1) (fun k _ => by rw [(E.1 92 (by decide) (by decide) (by omega)).2]) (rw_cong RWd (E.1 93 (by decide) (by decide) (by omega)).2)
    rw [ec] at ec'
    injection ec' with ec'
    injection ec' with y1 y2
    subst y2
    rcases alt' with ⟨z, _⟩ | ⟨L', j', w', m', z, em, I'⟩
    · rw [← y1] at z
      exact absurd z (nI_nm (by omega))
    · obtain ⟨_, Fm, _, _, _, m16, hL', c66, m23, m90, A⟩ := I'
      rw [← y1] at z
      have eL : L = L' := (nI_eq (by omega) (by omega)).mp z
      subst eL
      obtain ⟨r, m2, e2, er, F2, a2⟩ := mt83 (mA := u1 m' 88 169 (nI L)) hL (by rw [u1_at, if_neg (by omega)]; exact m23) (3 * L) 0 FU (u1 m' 88 169 (nI L)) (by omega) (by unfold FU; omega) (fr_refl _ _) (fun j => by rw [if_neg (by omega)])
      have F3 : FR [88] m' m2 := fr_trans (fr_u1 (fr_refl _ _) (by decide)) F2
      refine ⟨nI L, u1 (u1 (cpT cf) 0 1 0) 0 2 (nI 0), m2, ?_, ?_, ?_⟩
      · rw [cls _ _ ec, if_neg (nI_nm (by omega)), e_cpT, ob_e]
        unfold f_X9_tellings_52
        dsimp only
        rw [e_endT _ (by omega), ob_e, show (cpT cf).1 44 2 = nI 0 from by rw [(cpT_o (c := cf) (by decide)).1]; exact kf]
      · rw [em, show f_X10_tellings_83 FU (0 : Int32) _ = _ from e2, er]
      · have hE : ER d (nI 0) m' := er_mf (fun a ha => by
          simp only [List.mem_cons, List.not_mem_nil, or_false] at ha
          omega) E (Or.inr rfl) Fm m16
        have hlo : ∀ j, j < 169 → hW h w' L j = h j := fun j hj => hW_lo hj
        have tw : ∀ i, i < L → hW h w' L (170 + 3 * i) = w' (3 * i) ∧ hW h w' L (170 + 3 * i + 1) = w' (3 * i + 1) ∧ hW h w' L (170 + 3 * i + 2) = w' (3 * i + 2) := fun i hi => ⟨hW_t (by omega), by rw [show 170 + 3 * i + 1 = 170 + (3 * i + 1) by omega]; exact hW_t (by omega), by rw [show 170 + 3 * i + 2 = 170 + (3 * i + 2) by omega]; exact hW_t (by omega)⟩
        have VW : VH (hW h w' L) := vh_told V hlo (by rw [hW_k]; exact hL) (fun i hi => by
          rw [hW_k] at hi
          obtain ⟨b1, b2, b3⟩ := tw i hi
          rw [b1, b2, b3]
          exact (A i hi).2.2.2)
        refine rz_er RR (er_keep hE (fun a ha => F3 a (fun z => ha (by
          simp only [List.mem_cons, List.not_mem_nil, or_false] at z ⊢
          omega)))) ⟨hW h w' L, VW, ?_, ?_⟩
        · have kd : ∀ a, a ∈ [2, 3, 4, 5, 6, 7, 8, 9, 10, 11] → m2.1 a = d.1 a ∧ m2.2 a = d.2 a := by
            intro a ha
            have n1 : a ≠ 0 ∧ a ∉ [12, 13, 14, 15] ∧ (a < 44 ∨ 71 < a) ∧ a ≠ 86 ∧ a ∉ [86, 89, 90, 91, 92] ∧ a ∉ [88] := (by decide : ∀ a, a ∈ [2, 3, 4, 5, 6, 7, 8, 9, 10, 11] → a ≠ 0 ∧ a ∉ [12, 13, 14, 15] ∧ (a < 44 ∨ 71 < a) ∧ a ≠ 86 ∧ a ∉ [86, 89, 90, 91, 92] ∧ a ∉ [88]) a ha
            obtain ⟨a0, aS, ar, a86, am, a88⟩ := n1
            exact ⟨by rw [(F3 a a88).1, (Fm.1 a am).1, bq_1 a86, (E.1 a a0 aS ar).1], by rw [(F3 a a88).2, (Fm.1 a am).2, bq_2, (E.1 a a0 aS ar).2]⟩
          have k92 : ∀ j, j < 7 → d.2 92 j = m2.2 92 j := fun j hj => by rw [(F3 92 (by decide)).2, Fm.2.1 j hj, bq_2, (E.1 92 (by decide) (by decide) (by omega)).2]
          have kt : ∀ a, a ∈ [12, 13, 14, 15] → m2.1 a = (cpT cf).1 a := by
            intro a ha
            have n1 : a ≠ 0 ∧ a ≠ 86 ∧ a ∉ [86, 89, 90, 91, 92] ∧ a ∉ [88] := (by decide : ∀ a, a ∈ [12, 13, 14, 15] → a ≠ 0 ∧ a ≠ 86 ∧ a ∉ [86, 89, 90, 91, 92] ∧ a ∉ [88]) a ha
            obtain ⟨a0, a86, am, a88⟩ := n1
            rw [(F3 a a88).1, (Fm.1 a am).1, bq_1 a86]
            funext i
            rw [u1_at, if_neg (fun q => a0 q.1), u1_at, if_neg (fun q => a0 q.1)]
          refine hc_nm (nm := d.2 92) VW (hc_told V RH1.1 hlo kd ?_ (fun i hi => ?_)) k92
          · rw [hW_k, kt 12 (by decide), cpT_12]
            exact c66
          · rw [hW_k] at hi
            obtain ⟨b1, b2, b3⟩ := tw i hi
            obtain ⟨x1, x2, x3⟩ := cpT_t (c := cf) (i := i) (by omega)
            obtain ⟨y1, y2, y3, _⟩ := A i hi
            rw [b1, b2, b3, kt 13 (by decide), kt 14 (by decide), kt 15 (by decide), x1, x2, x3]
            exact ⟨y1, y2, y3⟩
        · have k1 : ∀ a, a ∈ [88, 94, 95] → m'.1 a = d.1 a := by
            intro a ha
            have n1 : a ≠ 0 ∧ a ∉ [12, 13, 14, 15] ∧ (a < 44 ∨ 71 < a) ∧ a ≠ 86 ∧ a ∉ [86, 89, 90, 91, 92] := (by decide : ∀ a, a ∈ [88, 94, 95] → a ≠ 0 ∧ a ∉ [12, 13, 14, 15] ∧ (a < 44 ∨ 71 < a) ∧ a ≠ 86 ∧ a ∉ [86, 89, 90, 91, 92]) a ha
            obtain ⟨a0, aS, ar, a86, am⟩ := n1
            rw [(Fm.1 a am).1, bq_1 a86, (E.1 a a0 aS ar).1]
          refine hm_told V RH1.2 hlo (fun j => ?_) ((F3 94 (by decide)).1.trans (k1 94 (by decide))) ((F3 95 (by decide)).1.trans (k1 95 (by decide)))
          rw [a2 j]
          unfold hW
          by_cases c1 : j = 169
          · rw [if_pos c1, if_neg (by omega), u1_at, if_pos ⟨rfl, c1⟩]
          · rw [if_neg c1]
            by_cases c : 170 ≤ j ∧ j < 170 + 3 * L
            · rw [if_pos c, if_pos c, u1_at, if_neg (by omega)]
              exact m90 (j - 170) (by omega)
            · rw [if_neg c, if_neg c, u1_at, if_neg (fun z => c1 z.2), k1 88 (by decide)]
              exact RH1.2.1 j
