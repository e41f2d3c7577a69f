-- PURE ROWS: a house's text, whole
theorem e_line {G : TX} {T j : Nat} {h nm wd} {c0 m0 c m : DD} (X : VX G) (W : RW m0) (I : HOI G T c0 m0 j h nm wd c m) (s0 : so G j ≠ 0) (k19 : Int32 → Int32 → DD → Option (Int32 × DD)) {v1 v2 : Int32} (hv : v2 < (940 : Int32)) : ∃ oc, f_X2_readAll_19B k19 v1 v2 c = oc.bind (fun q => f_X2_readAll_149 k19 v1 v2 q.1 q.2) ∧ LH oc (f_X10_line m) c0 m0 (HQL G T c0 m0 j m) := by
  have C := I.2.2.1
  have M := I.2.2.2.1
  have sl := qS_le G (pQ G j)
  have w5 : f_X10_isWord (1802071652 : Int64) m = some (bI (decide (so G j = 5)), m) := e_isWord M (s := 5) (by omega) (fun v => srt_5)
  have w7 : f_X10_isWord (123581014175598 : Int64) m = some (bI (decide (so G j = 7)), m) := e_isWord M (s := 7) (by omega) (fun v => srt_7)
  have w12 : f_X10_isWord (465726040947 : Int64) m = some (bI (decide (so G j = 12)), m) := e_isWord M (s := 12) (by omega) (fun v => srt_12)
  have w13 : f_X10_isWord (1953854062 : Int64) m = some (bI (decide (so G j = 13)), m) := e_isWord M (s := 13) (by omega) (fun v => srt_13)
  have w14 : f_X10_isWord (512735736947 : Int64) m = some (bI (decide (so G j = 14)), m) := e_isWord M (s := 14) (by omega) (fun v => srt_14)
  have ns : ∀ q, q < 1000 → so G j ≠ q → ¬ nI (so G j) = nI q := fun q hq ne z => ne ((so_eq hq).mp z)
  have pre : f_X2_readAll_19B k19 v1 v2 c = (if nI (so G j) = (5 : Int32) then (f_X2_readKindLine c).bind fun q5 => f_X2_readAll_149 k19 v1 v2 q5.1 q5.2 else if nI (so G j) = (6 : Int32) then f_X2_readAll_149 k19 v1 v2 (0 : Int32) (RF c 1 (pl G j)) else if nI (so G j) = (7 : Int32) then (f_X2_readPersonLine c).bind fun q8 => f_X2_readAll_149 k19 v1 v2 q8.1 q8.2 else if nI (so G j) = (8 : Int32) then f_X2_readAll_149 k19 v1 v2 (0 : Int32) (RF c 1 (pl G j)) else if nI (so G j) = (9 : Int32) then f_X2_readAll_149 k19 v1 v2 (0 : Int32) (RF c 1 (pl G j)) else if nI (so G j) = (10 : Int32) then f_X2_readAll_149 k19 v1 v2 (0 : Int32) (RF c 1 (pl G j)) else if nI (so G j) = (11 : Int32) then f_X2_readAll_149 k19 v1 v2 (0 : Int32) (RF c 1 (pl G j)) else if nI (so G j) = (12 : Int32) then (f_X2_readLooksLine c).bind fun q13 => f_X2_readAll_149 k19 v1 v2 q13.1 q13.2 else if nI (so G j) = (13 : Int32) then (f_X2_readTurnLine c).bind fun q14 => f_X2_readAll_149 k19 v1 v2 q14.1 q14.2 else if nI (so G j) = (14 : Int32) then (f_X2_readWantsLine c).bind fun q15 => f_X2_readAll_149 k19 v1 v2 q15.1 q15.2 else f_X2_readAll_149 k19 v1 v2 (0 : Int32) (RF c 1 (pl G j))) := by
    unfold f_X2_readAll_19B
    rw [if_pos hv, e_sort C, ob_e, if_neg (show ¬ nI (so G j) = 0 from ns 0 (by omega) s0)]
    dsimp only
    rw [e_sort C, ob_e]
    dsimp only
    rw [show f_X0_refuse (1 : Int32) c = _ from e_refuse C 1]
    simp only [ob_e]
  have bad : (f_X10_bad (1 : Int32) m) = some ((0 : Int32), RB m 1 (pl G j)) := e_bad M 1
  by_cases n5 : so G j = 5
  · refine ⟨f_X2_readKindLine c, by rw [pre, if_pos (show nI (so G j) = 5 by rw [n5]; rfl)], ?_⟩
    have lk := l_kind X W I n5
    have ml : f_X10_line m = (f_X10_readKind m).bind fun q11 => if q11.1 = 0 ∨ q11.1 = 1 then some (q11.1, q11.2) else none := by
      unfold f_X10_line
      rw [w5, ob_e]
      dsimp only
      rw [decide_eq_true n5, if_neg (show ¬ bI true = 0 by decide)]
    obtain ⟨r, c', m', e, alt⟩ := lk
    refine ⟨r, c', m', e, ?_⟩
    rw [ml]
    rcases alt with ⟨rfl, om, F⟩ | ⟨rfl, om, q⟩
    · rcases om with om | ⟨m1, om, sg⟩
      · exact Or.inl ⟨rfl, Or.inl (by rw [om, ob_e]; exact or01), F⟩
      · exact Or.inl ⟨rfl, Or.inr ⟨m1, by rw [om, ob_e]; exact or11, sg⟩, F⟩
    · exact Or.inr ⟨rfl, by rw [om, ob_e]; exact or11, q⟩
  · by_cases n7 : so G j = 7
    · refine ⟨f_X2_readPersonLine c, by rw [pre, n7, if_neg (by decide), if_neg (by decide), if_pos (by decide)], ?_⟩
      have lk := l_person X W I n7
      have ml : f_X10_line m = (f_X10_readPerson m).bind fun q11 => if q11.1 = 0 ∨ q11.1 = 1 then some (q11.1, q11.2) else none := by
        unfold f_X10_line
        rw [w5, ob_e]
        dsimp only
        rw [decide_eq_false n5, if_pos (show bI false = 0 from rfl), w7, ob_e]
        dsimp only
        rw [decide_eq_true n7, if_neg (show ¬ bI true = 0 by decide)]
      obtain ⟨r, c', m', e, alt⟩ := lk
      refine ⟨r, c', m', e, ?_⟩
      rw [ml]
      rcases alt with ⟨rfl, om, F⟩ | ⟨rfl, om, q⟩
      · rcases om with om | ⟨m1, om, sg⟩
        · exact Or.inl ⟨rfl, Or.inl (by rw [om, ob_e]; exact or01), F⟩
        · exact Or.inl ⟨rfl, Or.inr ⟨m1, by rw [om, ob_e]; exact or11, sg⟩, F⟩
      · exact Or.inr ⟨rfl, by rw [om, ob_e]; exact or11, q⟩
    · by_cases n12 : so G j = 12
      · refine ⟨f_X2_readLooksLine c, by rw [pre, n12, if_neg (by decide), if_neg (by decide), if_neg (by decide), if_neg (by decide), if_neg (by decide), if_neg (by decide), if_neg (by decide), if_pos (by decide)], ?_⟩
        have lk := l_looks X W I n12
        have ml : f_X10_line m = (f_X10_readLooks m).bind fun q11 => if q11.1 = 0 ∨ q11.1 = 1 then some (q11.1, q11.2) else none := by
          unfold f_X10_line
          rw [w5, ob_e]
          dsimp only
          rw [decide_eq_false n5, if_pos (show bI false = 0 from rfl), w7, ob_e]
          dsimp only
          rw [decide_eq_false n7, if_pos (show bI false = 0 from rfl), w12, ob_e]
          dsimp only
          rw [decide_eq_true n12, if_neg (show ¬ bI true = 0 by decide)]
        obtain ⟨r, c', m', e, alt⟩ := lk
        refine ⟨r, c', m', e, ?_⟩
        rw [ml]
        rcases alt with ⟨rfl, om, F⟩ | ⟨rfl, om, q⟩
        · rcases om with om | ⟨m1, om, sg⟩
          · exact Or.inl ⟨rfl, Or.inl (by rw [om, ob_e]; exact or01), F⟩
          · exact Or.inl ⟨rfl, Or.inr ⟨m1, by rw [om, ob_e]; exact or11, sg⟩, F⟩
        · exact Or.inr ⟨rfl, by rw [om, ob_e]; exact or11, q⟩
      · by_cases n13 : so G j = 13
        · refine ⟨f_X2_readTurnLine c, by rw [pre, n13, if_neg (by decide), if_neg (by decide), if_neg (by decide), if_neg (by decide), if_neg (by decide), if_neg (by decide), if_neg (by decide), if_neg (by decide), if_pos (by decide)], ?_⟩
          have lk := l_turn X W I n13
          have ml : f_X10_line m = (f_X10_readTurn m).bind fun q11 => if q11.1 = 0 ∨ q11.1 = 1 then some (q11.1, q11.2) else none := by
            unfold f_X10_line
            rw [w5, ob_e]
            dsimp only
            rw [decide_eq_false n5, if_pos (show bI false = 0 from rfl), w7, ob_e]
            dsimp only
            rw [decide_eq_false n7, if_pos (show bI false = 0 from rfl), w12, ob_e]
            dsimp only
            rw [decide_eq_false n12, if_pos (show bI false = 0 from rfl), w13, ob_e]
            dsimp only
            rw [decide_eq_true n13, if_neg (show ¬ bI true = 0 by decide)]
          obtain ⟨r, c', m', e, alt⟩ := lk
          refine ⟨r, c', m', e, ?_⟩
          rw [ml]
          rcases alt with ⟨rfl, om, F⟩ | ⟨rfl, om, q⟩
          · rcases om with om | ⟨m1, om, sg⟩
            · exact Or.inl ⟨rfl, Or.inl (by rw [om, ob_e]; exact or01), F⟩
            · exact Or.inl ⟨rfl, Or.inr ⟨m1, by rw [om, ob_e]; exact or11, sg⟩, F⟩
          · exact Or.inr ⟨rfl, by rw [om, ob_e]; exact or11, q⟩
        · by_cases n14 : so G j = 14
          · refine ⟨f_X2_readWantsLine c, by rw [pre, n14, if_neg (by decide), if_neg (by decide), if_neg (by decide), if_neg (by decide), if_neg (by decide), if_neg (by decide), if_neg (by decide), if_neg (by decide), if_neg (by decide), if_pos (by decide)], ?_⟩
            have lk := l_wants X W I n14
            have ml : f_X10_line m = (f_X10_readWants m).bind fun q11 => if q11.1 = 0 ∨ q11.1 = 1 then some (q11.1, q11.2) else none := by
              unfold f_X10_line
              rw [w5, ob_e]
              dsimp only
              rw [decide_eq_false n5, if_pos (show bI false = 0 from rfl), w7, ob_e]
              dsimp only
              rw [decide_eq_false n7, if_pos (show bI false = 0 from rfl), w12, ob_e]
              dsimp only
              rw [decide_eq_false n12, if_pos (show bI false = 0 from rfl), w13, ob_e]
              dsimp only
              rw [decide_eq_false n13, if_pos (show bI false = 0 from rfl), w14, ob_e]
              dsimp only
              rw [decide_eq_true n14, if_neg (show ¬ bI true = 0 by decide)]
            obtain ⟨r, c', m', e, alt⟩ := lk
            refine ⟨r, c', m', e, ?_⟩
            rw [ml]
            rcases alt with ⟨rfl, om, F⟩ | ⟨rfl, om, q⟩
            · rcases om with om | ⟨m1, om, sg⟩
              · exact Or.inl ⟨rfl, Or.inl (by rw [om, ob_e]; exact or01), F⟩
              · exact Or.inl ⟨rfl, Or.inr ⟨m1, by rw [om, ob_e]; exact or11, sg⟩, F⟩
            · exact Or.inr ⟨rfl, by rw [om, ob_e]; exact or11, q⟩
          · have ml : f_X10_line m = some ((0 : Int32), RB m 1 (pl G j)) := by
              unfold f_X10_line
              rw [w5, ob_e]
              dsimp only
              rw [decide_eq_false n5, if_pos (show bI false = 0 from rfl), w7, ob_e]
              dsimp only
              rw [decide_eq_false n7, if_pos (show bI false = 0 from rfl), w12, ob_e]
              dsimp only
              rw [decide_eq_false n12, if_pos (show bI false = 0 from rfl), w13, ob_e]
              dsimp only
              rw [decide_eq_false n13, if_pos (show bI false = 0 from rfl), w14, ob_e]
              dsimp only
              rw [decide_eq_false n14, if_pos (show bI false = 0 from rfl), bad, ob_e]
              exact or01
            refine ⟨some ((0 : Int32), RF c 1 (pl G j)), ?_, ?_⟩
            · rw [pre, ob_e, if_neg (show ¬ nI (so G j) = 5 from ns 5 (by omega) n5), if_neg (show ¬ nI (so G j) = 7 from ns 7 (by omega) n7), if_neg (show ¬ nI (so G j) = 12 from ns 12 (by omega) n12), if_neg (show ¬ nI (so G j) = 13 from ns 13 (by omega) n13), if_neg (show ¬ nI (so G j) = 14 from ns 14 (by omega) n14)]
              repeat' split
              all_goals rfl
            · rw [ml]
              exact lh_bad X I.1 I.2.1 1
theorem hl_l {G : TX} {T : Nat} {c0 m0 : DD} (X : VX G) (W : RW m0) : ∀ (n j L f f' : Nat) (h : Nat → Nat) (nm : Nat → Int64) (wd : Nat → Nat) (c m : DD), T ≤ j + n → n + 1 < f → n + 1 < f' → 2 * L ≤ j → HOI G T c0 m0 j h nm wd c m → m.1 86 20 = nI L → ∃ rc c', f_X2_readAll_19 f (nI L) (nI L) c = some (rc, c') ∧ ((rc = (-1 : Int32) ∧ ∃ m', f_X10_house_48 f' m = some ((-1 : Int32) - m'.1 86 17, m') ∧ FLT c0 m0 c' m') ∨ ∃ L' j' h' nm' wd' m', rc = nI L' ∧ L' ≤ 940 ∧ f_X10_house_48 f' m = f_X10_house_93 FU 0 m' ∧ HOI G T c0 m0 j' h' nm' wd' c' m' ∧ m'.1 86 20 = nI L') := by
  have stp : ∀ (j L f f' : Nat) (h : Nat → Nat) (nm : Nat → Int64) (wd : Nat → Nat) (c m : DD), 2 * L ≤ j → HOI G T c0 m0 j h nm wd c m → m.1 86 20 = nI L → (∀ (j' : Nat) h' nm' wd' c' m', j + 2 ≤ j' → j' ≤ T → HOI G T c0 m0 j' h' nm' wd' c' m' → m'.1 86 20 = nI (L + 1) → ∃ rc c'', f_X2_readAll_19 f (nI (L + 1)) (nI (L + 1)) c' = some (rc, c'') ∧ ((rc = (-1 : Int32) ∧ ∃ m'', f_X10_house_48 f' m' = some ((-1 : Int32) - m''.1 86 17, m'') ∧ FLT c0 m0 c'' m'') ∨ ∃ L' j' h' nm' wd' m'', rc = nI L' ∧ L' ≤ 940 ∧ f_X10_house_48 f' m' = f_X10_house_93 FU 0 m'' ∧ HOI G T c0 m0 j' h' nm' wd' c'' m'' ∧ m''.1 86 20 = nI L')) → ∃ rc c', f_X2_readAll_19 (f + 1) (nI L) (nI L) c = some (rc, c') ∧ ((rc = (-1 : Int32) ∧ ∃ m', f_X10_house_48 (f' + 1) m = some ((-1 : Int32) - m'.1 86 17, m') ∧ FLT c0 m0 c' m') ∨ ∃ L' j' h' nm' wd' m', rc = nI L' ∧ L' ≤ 940 ∧ f_X10_house_48 (f' + 1) m = f_X10_house_93 FU 0 m' ∧ HOI G T c0 m0 j' h' nm' wd' c' m' ∧ m'.1 86 20 = nI L') := by
    intro j L f f' h nm wd c m hL I h20 K
    have C := I.2.2.1
    have M := I.2.2.2.1
    have hjT := C.2.2.1
    have hT := C.2.2.2.1
    have L940 : nI L < (940 : Int32) := (nI_ltI (b := 940) (by omega) (by omega)).mpr (by omega)
    by_cases s : so G j = 0
    · refine ⟨nI L, c, ?_, Or.inr ⟨L, j, h, nm, wd, m, rfl, by omega, ?_, I, h20⟩⟩
      · show f_X2_readAll_19B (f_X2_readAll_19 f) _ _ _ = _
        unfold f_X2_readAll_19B
        rw [if_pos L940, e_sort C, ob_e, if_pos (show nI (so G j) = 0 by rw [s]; rfl)]
      · show f_X10_house_48B (f_X10_house_48 f') _ = _
        unfold f_X10_house_48B
        rw [if_pos ((ms_z M).mpr s)]
    · obtain ⟨oc, ec, r, c', m', eo, alt⟩ := e_line X W I s (f_X2_readAll_19 f) (v1 := nI L) L940
      have cls : f_X2_readAll_19 (f + 1) (nI L) (nI L) c = f_X2_readAll_149 (f_X2_readAll_19 f) (nI L) (nI L) r c' := by
        show f_X2_readAll_19B (f_X2_readAll_19 f) _ _ _ = _
        rw [ec, eo, ob_e]
      rcases alt with ⟨rfl, om, F⟩ | ⟨rfl, om, j', h', nm', wd', I', hj', e20⟩
      · refine ⟨-1, c', ?_, Or.inl ⟨rfl, m', ?_, F⟩⟩
        · rw [cls]
          unfold f_X2_readAll_149
          rw [if_pos rfl]
        · show f_X10_house_48B (f_X10_house_48 f') _ = _
          unfold f_X10_house_48B
          rw [if_neg (fun z => s ((ms_z M).mp z))]
          rcases om with om | ⟨m1, om, sg⟩
          · rw [om, ob_e, if_pos rfl]
          · rw [om, ob_e]
            dsimp only
            rw [if_neg (show ¬ (1 : Int32) = 0 by decide), sg, ob_e, if_pos rfl]
      · obtain ⟨a1, a2, a3, a4, a5, a6, a7, a8, a9, a10⟩ := I'
        obtain ⟨sa, sb'⟩ := e_sign X a4
        have mod : f_X10_house_48 (f' + 1) m = (f_X10_sign (59 : Int32) m').bind fun q11 => if q11.1 = 0 then some ((-1 : Int32) - (q11.2.1 86 17), q11.2) else bd (u1 q11.2 86 20 ((q11.2.1 86 20) + (1 : Int32))) fun d12 => f_X10_house_48 f' d12 := by
          show f_X10_house_48B (f_X10_house_48 f') _ = _
          unfold f_X10_house_48B
          rw [if_neg (fun z => s ((ms_z M).mp z)), om, ob_e]
          dsimp only
          rw [if_neg (show ¬ (1 : Int32) = 0 by decide)]
        have cl2 : f_X2_readAll_149 (f_X2_readAll_19 f) (nI L) (nI L) (1 : Int32) c' = if so G j' = 2 then f_X2_readAll_19 f (nI (L + 1)) (nI (L + 1)) (nxc c' j') else some ((-1 : Int32), RF c' 1 (pl G j')) := by
          unfold f_X2_readAll_149
          rw [if_neg (show ¬ (1 : Int32) = 0 by decide), e_semi a3]
          by_cases s2 : so G j' = 2
          · rw [if_pos s2, if_pos s2, ob_e, if_neg (show ¬ (1 : Int32) = 0 by decide), nI_1]
          · rw [if_neg s2, if_neg s2, ob_e, if_pos rfl]
        by_cases s2 : so G j' = 2
        · obtain ⟨m2, e2, S2, M2⟩ := sa s2
          have I2 : HOI G T c0 m0 (j' + 1) h' nm' wd' (nxc c' j') (u1 m2 86 20 (nI (L + 1))) := by
            refine ⟨cfr_nx a1, mf_86 (mf_trans a2 (mf_sk S2)) (by decide), cur_next a3 (by omega), ms_keep M2 (by funext i; rw [u1_at, if_neg (by omega)]) rfl (fun i hi => by rw [u1_at, if_neg (fun z => by rw [z.2] at hi; exact absurd hi (by decide))]), by rw [nx_o (by omega)]; exact a5, by rw [u1_at, if_neg (by omega), S2.2 16 (by decide)]; exact a6, a7, a8, cp_nx a9, ?_⟩
            have P2 := mp_kp a10 (kp_sk S2)
            refine ⟨fun q hq => ?_, P2.2.1, P2.2.2⟩
            rw [u1_at, if_neg (by omega)]
            exact P2.1 q hq
          obtain ⟨rc, c'', x1, x2⟩ := K (j' + 1) h' nm' wd' (nxc c' j') (u1 m2 86 20 (nI (L + 1))) (by omega) I2.2.2.1.2.2.1 I2 (by rw [u1_at, if_pos ⟨rfl, rfl⟩])
          refine ⟨rc, c'', ?_, ?_⟩
          · rw [cls, cl2, if_pos s2]
            exact x1
          · rw [mod, e2, ob_e]
            dsimp only
            rw [if_neg (show ¬ (1 : Int32) = 0 by decide), S2.2 20 (by decide), e20, h20, nI_1, bd_e]
            exact x2
        · refine ⟨-1, RF c' 1 (pl G j'), ?_, Or.inl ⟨rfl, RB m' 1 (pl G j'), ?_, flt X a1 a2 1⟩⟩
          · rw [cls, cl2, if_neg s2]
          · rw [mod, sb' s2, ob_e, if_pos rfl]
  intro n
  induction n with
  | zero =>
    intro j L f f' h nm wd c m hk hf hf' hL I h20
    obtain ⟨f, rfl⟩ : ∃ f1, f = f1 + 1 := ⟨f - 1, by omega⟩
    obtain ⟨f', rfl⟩ : ∃ f1, f' = f1 + 1 := ⟨f' - 1, by omega⟩
    exact stp j L f f' h nm wd c m hL I h20 (fun j' _ _ _ _ _ h1 h2 _ _ => by omega)
  | succ n ih =>
    intro j L f f' h nm wd c m hk hf hf' hL I h20
    obtain ⟨f, rfl⟩ : ∃ f1, f = f1 + 1 := ⟨f - 1, by omega⟩
    obtain ⟨f', rfl⟩ : ∃ f1, f' = f1 + 1 := ⟨f' - 1, by omega⟩
    exact stp j L f f' h nm wd c m hL I h20 (fun j' h' nm' wd' c' m' h1 h2 I' e' => ih j' (L + 1) f f' h' nm' wd' c' m' (by omega) (by omega) (by omega) (by omega) I' e')
theorem mh93 {mA : DD} : ∀ (n u f : Nat) (m : DD), u + n = 290 → n < f → FR [88] mA m → (∀ j, m.1 88 j = if j < u then (if j < 169 then mA.1 89 j else nI 0) else mA.1 88 j) → ∃ m', f_X10_house_93 f (nI u) m = f_X10_house_131 FU 0 m' ∧ FR [88] mA m' ∧ ∀ j, m'.1 88 j = if j < 290 then (if j < 169 then mA.1 89 j else nI 0) else mA.1 88 j := by
  intro n
  induction n with
  | zero =>
    intro u f m hu hf F h88
    obtain ⟨f, rfl⟩ : ∃ f', f = f' + 1 := ⟨f - 1, by omega⟩
    have e : u = 290 := by omega
    subst e
    refine ⟨m, ?_, F, h88⟩
    show f_X10_house_93B (f_X10_house_93 f) _ _ = _
    unfold f_X10_house_93B
    rw [if_neg (by decide)]
  | succ n ih =>
    intro u f m hu hf F h88
    obtain ⟨f, rfl⟩ : ∃ f', f = f' + 1 := ⟨f - 1, by omega⟩
    obtain ⟨m', e, a, b⟩ := ih (u + 1) f (u1 m 88 u (if u < 169 then mA.1 89 u else nI 0)) (by omega) (by omega) (fr_u1 F (by decide)) (fun j => by
      rw [u1_at]
      by_cases c : j = u
      · rw [if_pos ⟨rfl, c⟩, if_pos (show j < u + 1 by omega), c]
      · rw [if_neg (fun z => c z.2), h88 j]
        by_cases c2 : j < u
        · rw [if_pos c2, if_pos (show j < u + 1 by omega)]
        · rw [if_neg c2, if_neg (show ¬ j < u + 1 by omega)])
    refine ⟨m', ?_, a, b⟩
    show f_X10_house_93B (f_X10_house_93 f) _ _ = _
    unfold f_X10_house_93B
    rw [if_pos (show nI u < (290 : Int32) from (nI_ltI (b := 290) (by omega) (by omega)).mpr (by omega)), nI_1]
    by_cases c : u < 169
    · rw [if_pos c] at e
      rw [if_pos (show nI u < (169 : Int32) from (nI_ltI (b := 169) (by omega) (by omega)).mpr c), if_pos (a89 c), if_pos ((ix_nI (by omega)).mpr (by rw [ln_88]; omega)), nI_clamp (by omega), (F 89 (by decide)).1, bd_e]
      exact e
    · rw [if_neg c] at e
      rw [if_neg (show ¬ nI u < (169 : Int32) from fun z => c ((nI_ltI (b := 169) (by omega) (by omega)).mp z)), if_pos ((ix_nI (by omega)).mpr (by rw [ln_88]; omega)), nI_clamp (by omega), bd_e]
      exact e
theorem mh131 {mA : DD} : ∀ (n u f : Nat) (m : DD), u + n = 7 → n < f → FR [92] mA m → (∀ j, m.2 92 j = if j < u then mA.2 92 (7 + j) else mA.2 92 j) → ∃ m', f_X10_house_131 f (nI u) m = (f_X10_settle m').bind (fun q6 => some (q6.2.1 86 20, q6.2)) ∧ FR [92] mA m' ∧ ∀ j, m'.2 92 j = if j < 7 then mA.2 92 (7 + j) else mA.2 92 j := by
  intro n
  induction n with
  | zero =>
    intro u f m hu hf F h92
    obtain ⟨f, rfl⟩ : ∃ f', f = f' + 1 := ⟨f - 1, by omega⟩
    have e : u = 7 := by omega
    subst e
    refine ⟨m, ?_, F, h92⟩
    show f_X10_house_131B (f_X10_house_131 f) _ _ = _
    unfold f_X10_house_131B
    rw [if_neg (by decide)]
  | succ n ih =>
    intro u f m hu hf F h92
    obtain ⟨f, rfl⟩ : ∃ f', f = f' + 1 := ⟨f - 1, by omega⟩
    obtain ⟨m', e, a, b⟩ := ih (u + 1) f (u2 m 92 u (mA.2 92 (7 + u))) (by omega) (by omega) (fr_u2 F (by decide)) (fun j => by
      rw [u2_at]
      by_cases c : j = u
      · rw [if_pos ⟨rfl, c⟩, if_pos (by omega), c]
      · rw [if_neg (fun z => c z.2), h92 j]
        by_cases c2 : j < u
        · rw [if_pos c2, if_pos (by omega)]
        · rw [if_neg c2, if_neg (by omega)])
    refine ⟨m', ?_, a, b⟩
    show f_X10_house_131B (f_X10_house_131 f) _ _ = _
    unfold f_X10_house_131B
    rw [if_pos (show nI u < (7 : Int32) from (nI_ltI (b := 7) (by omega) (by omega)).mpr (by omega)), nI_1, show (7 : Int32) + nI u = nI (7 + u) from by rw [show (7 : Int32) = nI 7 from rfl, nI_add], if_pos ((ix_nI (by omega)).mpr (by rw [ln_92]; omega)), if_pos ((ix_nI (by omega)).mpr (by rw [ln_92]; omega)), nI_clamp (by omega), nI_clamp (by omega), h92 (7 + u), if_neg (by omega), bd_e]
    exact e
theorem mh24 {mB : DD} : ∀ (n u f : Nat) (m : DD), u + n = 169 → n < f → FR [89] mB m → (∀ w, w < u → m.1 89 w = nI 0) → ∃ m', f_X10_house_24 f (nI u) m = (f_X10_skip m').bind (fun q5 => f_X10_house_48 FU q5.2) ∧ FR [89] mB m' ∧ ∀ w, w < 169 → m'.1 89 w = nI 0 := by
  intro n
  induction n with
  | zero =>
    intro u f m hu hf F h91
    obtain ⟨f, rfl⟩ : ∃ f', f = f' + 1 := ⟨f - 1, by omega⟩
    have e : u = 169 := by omega
    subst e
    refine ⟨m, ?_, F, h91⟩
    show f_X10_house_24B (f_X10_house_24 f) _ _ = _
    unfold f_X10_house_24B
    rw [if_neg (by decide)]
  | succ n ih =>
    intro u f m hu hf F h91
    obtain ⟨f, rfl⟩ : ∃ f', f = f' + 1 := ⟨f - 1, by omega⟩
    obtain ⟨m', e, a, b⟩ := ih (u + 1) f (u1 m 89 u 0) (by omega) (by omega) (fr_u1 F (by decide)) (fun w hw => by
      rw [u1_at]
      by_cases c : w = u
      · rw [if_pos ⟨rfl, c⟩]; rfl
      · rw [if_neg (fun z => c z.2)]; exact h91 w (by omega))
    refine ⟨m', ?_, a, b⟩
    show f_X10_house_24B (f_X10_house_24 f) _ _ = _
    unfold f_X10_house_24B
    rw [if_pos (show nI u < (169 : Int32) from (nI_ltI (b := 169) (by omega) (by omega)).mpr (by omega)), if_pos (a89 (by omega)), nI_clamp (by omega), bd_e, nI_1]
    exact e
theorem mh_start {g : Nat → Nat} {n : Nat} {e : DD} (X : VX (g, n, 900)) (t2 : e.1 86 2 = nI n) (gm : ∀ i, i < n → e.1 87 i &&& 255 = nI (g i)) : ∃ mS, f_X10_house e = f_X10_house_48 FU mS ∧ MF (Bq e 900 20) mS ∧ MS (g, n, 900) mS 0 ∧ mS.1 86 16 = nI 0 ∧ mS.1 86 20 = nI 0 ∧ (∀ u, u < 169 → mS.1 89 u = nI 0) ∧ mS.1 88 = e.1 88 := by
  obtain ⟨B, b4⟩ := bq_bm (mo := 900) (q := 20) (by omega) t2 gm
  obtain ⟨m1, e1, F1, z1⟩ := mh24 (mB := Bq e 900 20) 169 0 FU (Bq e 900 20) (by omega) (by unfold FU; omega) (fr_refl _ _) (fun w hw => absurd hw (Nat.not_lt_zero w))
  have B1 : BM (g, n, 900) m1 := by
    obtain ⟨x1, x2, x3⟩ := B
    refine ⟨by rw [(F1 86 (by decide)).1]; exact x1, by rw [(F1 86 (by decide)).1]; exact x2, fun i hi => by rw [(F1 87 (by decide)).1]; exact x3 i hi⟩
  obtain ⟨m2, e2, S2, T2⟩ := e_skip X B1 (p := 0) (by rw [(F1 86 (by decide)).1]; exact b4) (Nat.zero_le _)
  have Fm1 : MF (Bq e 900 20) m1 := ⟨fun b hb => F1 b (fun z => hb (by
    simp only [List.mem_cons, List.not_mem_nil, or_false] at z ⊢
    omega)), fun k _ => by rw [(F1 92 (by decide)).2], fun q _ => by rw [(F1 86 (by decide)).1]⟩
  refine ⟨m2, ?_, mf_trans Fm1 (mf_sk S2), ⟨bm_sk B1 S2, T2⟩, ?_, ?_, fun u hu => ?_, ?_⟩
  · have q : f_X10_house e = f_X10_house_24 FU (nI 0) (Bq e 900 20) := by
      unfold f_X10_house
      rw [bd_e, e_X10_taken, ob_e]
      dsimp only
      rw [bd_e, bd_e]
      rfl
    rw [q, e1, e2, ob_e]
  · rw [S2.2 16 (by decide), (F1 86 (by decide)).1, bq_16 (by omega)]
  · rw [S2.2 20 (by decide), (F1 86 (by decide)).1, bq_q]
  · rw [(S2.1 89 (by decide)).1]; exact z1 u hu
  · rw [(S2.1 88 (by decide)).1, (F1 88 (by decide)).1, bq_1 (by decide)]
theorem e_clear (c : DD) : OW (f_X1_clear 50 c) (fun _ c' => FR [50, 57, 58, 59, 60] c c' ∧ c'.1 50 0 = nI 0 ∧ c'.1 50 1 = nI 0 ∧ (∀ i, i < 4 → c'.1 57 i = nI 0) ∧ (∀ i, i < 120 → c'.1 58 i = nI 0) ∧ (∀ i, i < 30 → c'.1 59 i = pI 0) ∧ c'.1 60 0 = nI 0) := by
  unfold f_X1_clear
  rw [bd_e, bd_e, rf_50_8, rf_50_9, rf_50_10, rf_50_11]
  refine ow_call (e_fill1 (p := 57) 0 _) ?_
  rintro _ d3 ⟨F3, z3⟩
  dsimp only
  refine ow_call (e_fill1 (p := 58) 0 d3) ?_
  rintro _ d4 ⟨F4, z4⟩
  dsimp only
  refine ow_call (e_fill1 (p := 59) (-1) d4) ?_
  rintro _ d5 ⟨F5, z5⟩
  dsimp only
  rw [bd_e]
  have k50 : d5.1 50 = (u1 (u1 c 50 0 0) 50 1 0).1 50 := by rw [(F5 50 (by decide)).1, (F4 50 (by decide)).1, (F3 50 (by decide)).1]
  refine ow_ret ⟨fr_u1 (fr_trans (fr_u1 (fr_u1 (fr_refl _ _) (by decide)) (by decide)) (fr_trans (fr_mono F3 (by decide)) (fr_trans (fr_mono F4 (by decide)) (fr_mono F5 (by decide))))) (by decide), ?_, ?_, fun i hi => ?_, fun i hi => ?_, fun i hi => ?_, ?_⟩
  · rw [u1_at, if_neg (by omega), k50, u1_at, if_neg (by omega), u1_at, if_pos ⟨rfl, rfl⟩]; rfl
  · rw [u1_at, if_neg (by omega), k50, u1_at, if_pos ⟨rfl, rfl⟩]; rfl
  · rw [u1_at, if_neg (by omega), (F5 57 (by decide)).1, (F4 57 (by decide)).1, z3 i (by rw [ln_57]; exact hi)]; rfl
  · rw [u1_at, if_neg (by omega), (F5 58 (by decide)).1, z4 i (by rw [ln_58]; exact hi)]; rfl
  · rw [u1_at, if_neg (by omega), z5 i (by rw [ln_59]; exact hi), pI_0]; rfl
  · rw [u1_at, if_pos ⟨rfl, rfl⟩]; rfl
theorem vh_z : VH (fun _ => 0) := ⟨by decide, by decide, fun k hk => absurd hk (Nat.not_lt_zero k), fun k hk => absurd hk (Nat.not_lt_zero k), fun k hk => absurd hk (Nat.not_lt_zero k), fun _ _ => Nat.le_refl _, fun _ _ => Nat.zero_le _, by decide, fun k hk => absurd hk (Nat.not_lt_zero k)⟩
def hFn (h h0 : Nat → Nat) : Nat → Nat := fun j => if j < 290 then (if j < 169 then h j else 0) else h0 j
theorem hFn_lo {h h0 : Nat → Nat} {j : Nat} (hj : j < 169) : hFn h h0 j = h j := by
  unfold hFn
  rw [if_pos (by omega), if_pos hj]
theorem hFn_169 {h h0 : Nat → Nat} : hFn h h0 169 = 0 := by
  unfold hFn
  rw [if_pos (by omega), if_neg (by omega)]
theorem vh_F {h h0 : Nat → Nat} (V : VH h) : VH (hFn h h0) := vh_told V (fun j hj => hFn_lo hj) (by rw [hFn_169]; omega) (fun i hi => by rw [hFn_169] at hi; exact absurd hi (Nat.not_lt_zero i))
theorem hc_F {d : DD} {h h0 : Nat → Nat} {nm nm' : Nat → Int64} (V : VH h) (h169 : h 169 = 0) (H : HC 2 d h nm) (e1 : ∀ k, k < h 0 → nm k = nm' k) (e2 : ∀ a, a < h 1 → nm (3 + a) = nm' (3 + a)) : HC 2 d (hFn h h0) nm' := by
  have v0 := V.1
  have v1 := V.2.1
  have s : ∀ q, q < 169 → hFn h h0 q = h q := fun q hq => hFn_lo hq
  obtain ⟨a0, a1, a2, a3, a4, a5, a6, a7, a8, a9, a10, a11, a12⟩ := H
  unfold HC
  rw [s 0 (by omega), s 1 (by omega), hFn_169]
  refine ⟨a0, a1, fun k hk => by rw [a2 k hk, e1 k hk], fun k hk => ?_, fun k hk => ?_, fun k hk => ?_, fun k hk => by rw [a6 k hk, e2 k hk], fun k hk => ?_, fun k hk => ?_, fun k hk => ?_, fun k hk => ?_, by rw [a11, h169], fun k hk => absurd hk (Nat.not_lt_zero k)⟩
  · rw [s (2 + k) (by omega)]; exact a3 k hk
  · rw [s (5 + k) (by omega)]; exact a4 k hk
  · rw [s (8 + k) (by omega)]; exact a5 k hk
  · rw [s (11 + k) (by omega)]; exact a7 k hk
  · rw [s (15 + k) (by omega)]; exact a8 k hk
  · rw [s (49 + k) (by omega)]; exact a9 k hk
  · rw [s (19 + k) (by omega)]; exact a10 k hk
theorem s_house {d : DD} (R : RZ d) : EQR f_X9_house f_X10_house d := by
  have RR := R
  obtain ⟨⟨h, V, RH1⟩, TPd, R3, R4, R5, RWd⟩ := R
  obtain ⟨n, g, hn, hg, t1, t2, gc, gm⟩ := tp_g TPd
  have X : VX (g, n, 900) := ⟨hg, hn, by show 900 ≤ 940; omega⟩
  obtain ⟨_, cA, eA, FA', kA, T, CA⟩ := e_begin (G := (g, n, 900)) (d := d) X gc
  obtain ⟨_, cK1, eK, FK, q0, q1, q57, q58, q59, q60⟩ := e_clear cA
  obtain ⟨_, cB, eB, FB, zB⟩ := e_fill1 (p := 64) 0 cK1
  have FcB : CFR d cB := fun a ha => by
    have n1 : a ∉ [44, 45, 46, 47, 48] := by
      simp only [List.mem_cons, List.not_mem_nil, or_false]
      omega
    have n2 : a ∉ [64] := by
      simp only [List.mem_cons, List.not_mem_nil, or_false]
      omega
    have n3 : a ∉ [50, 57, 58, 59, 60] := by
      simp only [List.mem_cons, List.not_mem_nil, or_false]
      omega
    exact ⟨(FB a n2).1.trans ((FK a n3).1.trans (FA' a n1).1), (FB a n2).2.trans ((FK a n3).2.trans (FA' a n1).2)⟩
  have CB : CUR (g, n, 900) T 0 cB := cur_keep CA (by rw [(FB 46 (by decide)).1, (FK 46 (by decide)).1]) (by rw [(FB 47 (by decide)).1, (FK 47 (by decide)).1]) (by rw [(FB 48 (by decide)).2, (FK 48 (by decide)).2]) (by rw [(FB 44 (by decide)).1, (FK 44 (by decide)).1])
  have kB : cB.1 44 2 = nI 0 := by rw [(FB 44 (by decide)).1, (FK 44 (by decide)).1]; exact kA
  have hT := CB.2.2.2.1
  have KB : CP (fun _ => 0) (fun _ => 0) (fun _ => 0) cB := by
    refine ⟨?_, fun a ha => ⟨?_, (by decide : 0 < 2 ^ 30)⟩, fun a ha => ⟨?_, (by decide : 0 < 2 ^ 30), fun u _ => ?_⟩⟩
    · unfold HC
      simp only [rf_50_2, rf_50_3, rf_50_4, rf_50_5, rf_50_6, rf_50_7, rf_50_8, rf_50_9, rf_50_10, rf_50_11, rf_60_1, rf_60_2, rf_60_3]
      rw [(FB 50 (by decide)).1, (FB 58 (by decide)).1, (FB 59 (by decide)).1, (FB 60 (by decide)).1]
      exact ⟨q0, q1, fun k hk => absurd hk (Nat.not_lt_zero k), fun k hk => absurd hk (Nat.not_lt_zero k), fun k hk => absurd hk (Nat.not_lt_zero k), fun k hk => absurd hk (Nat.not_lt_zero k), fun k hk => absurd hk (Nat.not_lt_zero k), fun k hk => absurd hk (Nat.not_lt_zero k), fun k hk => absurd hk (Nat.not_lt_zero k), fun j hj => q58 j hj, fun u hu => q59 u hu, q60, fun k hk => absurd hk (Nat.not_lt_zero k)⟩
    · rw [(FB 57 (by decide)).1]; exact q57 a ha
    · rw [zB a (by rw [ln_64]; exact ha)]; rfl
    · rw [Nat.zero_testBit]; rfl
  have run : ∀ e : DD, e.1 86 2 = nI n → (∀ i, i < n → e.1 87 i &&& 255 = nI (g i)) → RW e → ∃ rc c', f_X2_readAll_19 FU (nI 0) (nI 0) cB = some (rc, c') ∧ ((rc = (-1 : Int32) ∧ ∃ m', f_X10_house e = some ((-1 : Int32) - m'.1 86 17, m') ∧ FLT d (Bq e 900 20) c' m') ∨ ∃ L' j' h' nm' wd' m', rc = nI L' ∧ L' ≤ 940 ∧ f_X10_house e = f_X10_house_93 FU 0 m' ∧ HOI (g, n, 900) T d (Bq e 900 20) j' h' nm' wd' c' m' ∧ m'.1 86 20 = nI L') := by
    intro e e2 egm eW
    obtain ⟨mS, p1, p2, p3, p4, p5, p6, p7⟩ := mh_start X e2 egm
    have bW : RW (Bq e 900 20) := rw_cong eW rfl
    have I0 : HOI (g, n, 900) T d (Bq e 900 20) 0 (fun _ => 0) (fun _ => 0) (fun _ => 0) cB mS := ⟨FcB, p2, CB, p3, kB, p4, vh_z, rfl, KB, fun q hq => p6 q hq, fun k hk => absurd hk (Nat.not_lt_zero k), fun k hk => absurd hk (Nat.not_lt_zero k)⟩
    rw [p1]
    exact hl_l X bW T 0 0 FU FU _ _ _ cB mS (by omega) (by unfold FU; omega) (by unfold FU; omega) (by omega) I0 p5
  have cls : ∀ rc c', f_X2_readAll_19 FU (nI 0) (nI 0) cB = some (rc, c') → f_X9_house d = if rc = (-1 : Int32) then f_X9_house_45 rc c' else (f_X1_copyFrom 2 50 c').bind fun q4 => f_X9_house_45 rc q4.2 := by
    intro rc c' ec
    unfold f_X9_house
    rw [t1, show f_X0_begin 1 (nI n) (900 : Int32) d = _ from eA, ob_e]
    dsimp only
    unfold f_X2_readAll
    rw [eK, ob_e]
    dsimp only
    rw [eB, ob_e]
    dsimp only
    rw [show f_X2_readAll_19 FU (0 : Int32) (0 : Int32) cB = _ from ec, ob_e]
  obtain ⟨rc, cf, ec, alt⟩ := run d t2 gm RWd
  rcases alt with ⟨rfl, md, _, Fd⟩ | ⟨L, jd, hd, nmd, wdd, md, rfl, hL, _, Id, _⟩
  · have Fcf : CFR d cf := Fd.1
    have E : EF d (u1 (u1 cf 0 1 0) 0 2 (cf.1 44 2)) (cf.1 44 2) [] := ef_end (fun a _ ha => Fcf a ha) List.not_mem_nil
    have k86 := (E.1 86 (by decide) List.not_mem_nil (by omega)).1
    obtain ⟨rc', cf', ec', alt'⟩ := run (u1 (u1 cf 0 1 0) 0 2 (cf.1 44 2)) (by rw [k86]; exact t2) (fun i hi => by rw [(E.1 87 (by decide) List.not_mem_nil (by omega)).1]; exact gm i hi) (rw_cong RWd (E.1 93 (by decide) List.not_mem_nil (by omega)).2)
    rw [ec] at ec'
    injection ec' with ec'
    injection ec' with y1 y2
    subst y1
    subst y2
    rcases alt' with ⟨_, m', em, _, Fm, k, p, hp, x1, x2, x3, x4⟩ | ⟨L', _, _, _, _, _, z, hL', _⟩
    · refine ⟨(-1 : Int32) - cf.1 44 3, u1 (u1 cf 0 1 0) 0 2 (cf.1 44 2), m', ?_, ?_, ?_⟩
      · rw [cls _ _ ec, if_pos rfl]
        unfold f_X9_house_45
        rw [e_endB, ob_e]
      · rw [em, x4, x2]
      · exact rz_er RR (er_mf (fun a ha => absurd ha List.not_mem_nil) E (Or.inl rfl) Fm (by rw [x3, x1])) ⟨h, V, rh_flt V RH1 E Fm⟩
    · exact absurd z.symm (nI_nm (by omega))
  · obtain ⟨Fcf, _, _, _, kf, _, Vd, h169d, CPd, _⟩ := Id
    obtain ⟨_, cC, eC, FC, HCC⟩ := cf_2_50 Vd CPd.1
    have E : EF d (u1 (u1 cC 0 1 0) 0 2 (nI 0)) (nI 0) [2, 3, 4, 5, 6, 7, 8, 9, 10, 11, 12, 13, 14, 15] := ef_end (fun a hS ha => by
      obtain ⟨x1, x2⟩ := Fcf a ha
      obtain ⟨y1, y2⟩ := FC a hS
      exact ⟨y1.trans x1, y2.trans x2⟩) (by decide)
    have k86 := (E.1 86 (by decide) (by decide) (by omega)).1
    obtain ⟨rc', cf', ec', alt'⟩ := run (u1 (u1 cC 0 1 0) 0 2 (nI 0)) (by rw [k86]; exact t2) (fun i hi => by rw [(E.1 87 (by decide) (by decide) (by omega)).1]; exact gm i hi) (rw_cong RWd (E.1 93 (by decide) (by decide) (by omega)).2)
    rw [ec] at ec'
    injection ec' with ec'
    injection ec' with y1 y2
    subst y2
    rcases alt' with ⟨z, _⟩ | ⟨L', j', h', nm', wd', m', z, hL', em, I', e20⟩
    · rw [← y1] at z
      exact absurd z (nI_nm (by omega))
    · obtain ⟨_, Fm, _, _, _, m16, V', h169', CP', MP'⟩ := I'
      rw [← y1] at z
      obtain ⟨_, cC2, eC2, FC2, HCC2⟩ := cf_2_50 V' CP'.1
      rw [eC] at eC2
      injection eC2 with eC2
      injection eC2 with _ eC2
      subst eC2
      obtain ⟨m1, e1, F1, a1⟩ := mh93 (mA := m') 290 0 FU m' (by omega) (by unfold FU; omega) (fr_refl _ _) (fun j => by rw [if_neg (by omega)])
      obtain ⟨m2, e2, F2, a2⟩ := mh131 (mA := m1) 7 0 FU m1 (by omega) (by unfold FU; omega) (fr_refl _ _) (fun j => by rw [if_neg (by omega)])
      have k88d : m'.1 88 = d.1 88 := by rw [(Fm.1 88 (by decide)).1, bq_1 (by decide), (E.1 88 (by decide) (by decide) (by omega)).1]
      have h88 : ∀ j, m2.1 88 j = nI (hFn h' h j) := by
        intro j
        rw [(F2 88 (by decide)).1, a1 j]
        unfold hFn
        by_cases c1 : j < 290
        · rw [if_pos c1, if_pos c1]
          by_cases c2 : j < 169
          · rw [if_pos c2, if_pos c2]
            exact MP'.1 j c2
          · rw [if_neg c2, if_neg c2]
        · rw [if_neg c1, if_neg c1, k88d]
          exact RH1.2.1 j
      obtain ⟨_, m3, e3, F3, M3⟩ := e_settle (vh_F (h0 := h) V') h88
      have FF : ∀ a, a ∉ [88, 92, 94, 95] → m3.1 a = m'.1 a ∧ m3.2 a = m'.2 a := by
        intro a ha
        simp only [List.mem_cons, List.not_mem_nil, or_false] at ha
        have n3 : a ∉ [94, 95] := by
          simp only [List.mem_cons, List.not_mem_nil, or_false]
          omega
        have n2 : a ∉ [92] := by
          simp only [List.mem_cons, List.not_mem_nil, or_false]
          omega
        have n1 : a ∉ [88] := by
          simp only [List.mem_cons, List.not_mem_nil, or_false]
          omega
        exact ⟨(F3 a n3).1.trans ((F2 a n2).1.trans (F1 a n1).1), (F3 a n3).2.trans ((F2 a n2).2.trans (F1 a n1).2)⟩
      refine ⟨nI L, u1 (u1 cC 0 1 0) 0 2 (nI 0), m3, ?_, ?_, ?_⟩
      · rw [cls _ _ ec, if_neg (nI_nm (by omega)), eC, ob_e]
        unfold f_X9_house_45
        dsimp only
        rw [e_endT _ hL, ob_e, show cC.1 44 2 = nI 0 from by rw [(FC 44 (by decide)).1]; exact kf]
      · rw [em, show f_X10_house_93 FU (0 : Int32) m' = _ from e1, show f_X10_house_131 FU (0 : Int32) m1 = _ from e2, e3, ob_e]
        dsimp only
        rw [(FF 86 (by decide)).1, e20, z]
      · have hE : ER d (nI 0) m' := er_mf (fun a ha => by
          simp only [List.mem_cons, List.not_mem_nil, or_false] at ha
          omega) E (Or.inl rfl) Fm m16
        refine rz_er RR (er_keep hE FF) ⟨hFn h' h, vh_F V', ?_, M3⟩
        have kc : ∀ a, a ∈ [2, 3, 4, 5, 6, 7, 8, 9, 10, 11, 12, 13, 14, 15] → m3.1 a = cC.1 a ∧ m3.2 a = cC.2 a := by
          intro a ha
          have n1 : a ≠ 0 ∧ a ≠ 86 ∧ a ∉ [86, 89, 90, 91, 92] ∧ a ∉ [88, 92, 94, 95] := (by decide : ∀ a, a ∈ [2, 3, 4, 5, 6, 7, 8, 9, 10, 11, 12, 13, 14, 15] → a ≠ 0 ∧ a ≠ 86 ∧ a ∉ [86, 89, 90, 91, 92] ∧ a ∉ [88, 92, 94, 95]) a ha
          obtain ⟨a0, a86, am, aF⟩ := n1
          refine ⟨?_, ?_⟩
          · rw [(FF a aF).1, (Fm.1 a am).1, bq_1 a86]
            funext i
            rw [u1_at, if_neg (fun q => a0 q.1), u1_at, if_neg (fun q => a0 q.1)]
          · rw [(FF a aF).2, (Fm.1 a am).2, bq_2]
            rfl
        have H3 : HC 2 m3 h' nm' := hc_cong HCC2 (kc 2 (by decide)).1 (by rw [rf_2_2]; exact (kc 3 (by decide)).2) (by rw [rf_2_3]; exact (kc 4 (by decide)).1) (by rw [rf_2_4]; exact (kc 5 (by decide)).1) (by rw [rf_2_5]; exact (kc 6 (by decide)).1) (by rw [rf_2_6]; exact (kc 7 (by decide)).2) (by rw [rf_2_7]; exact (kc 8 (by decide)).1) (by rw [rf_2_8]; exact (kc 9 (by decide)).1) (by rw [rf_2_9]; exact (kc 10 (by decide)).1) (by rw [rf_2_10]; exact (kc 11 (by decide)).1) (by rw [rf_2_11]; exact (kc 12 (by decide)).1) (by rw [rf_2_11, rf_12_1]; exact (kc 13 (by decide)).1) (by rw [rf_2_11, rf_12_2]; exact (kc 14 (by decide)).1) (by rw [rf_2_11, rf_12_3]; exact (kc 15 (by decide)).1)
        have n92 : ∀ j, j < 7 → m3.2 92 j = m'.2 92 (7 + j) := fun j hj => by rw [(F3 92 (by decide)).2, a2 j, if_pos hj, (F1 92 (by decide)).2]
        have v0 := V'.1
        have v1 := V'.2.1
        exact hc_F V' h169' H3 (fun k hk => by rw [n92 k (by omega), MP'.2.1 k hk]) (fun a ha => by rw [n92 (3 + a) (by omega), show 7 + (3 + a) = 10 + a by omega, MP'.2.2 a ha])
