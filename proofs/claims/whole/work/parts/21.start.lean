-- THE LAW FROM ITS ENTRY, open in one thing: what its loop says of the numbers
section CWL
variable {E : XE} {si : SI} {cells slots : Nat} {Qf : State → Prop} {pc : Nat} {lv lv' : List (Nat × Value)} {st : List Value} {ws : va_W}
theorem q_astore {i0 x : Nat} {k : Fin 4} (hd : decode si.1 pc = .ok (.astore_n k, 1)) (hi : (k : Nat) = i0) (hn : i0 < si.2.2.1) (hlv : (i0, Value.ref x) :: lv.filter (fun q => !(q.1 == i0) && !(q.1 + 1 == i0 && q.2.category == 2)) = lv') (h : CW E si cells slots Qf (pc + 1) lv' st ws) : CW E si cells slots Qf pc lv (.ref x :: st) ws := by
  obtain ⟨p, l, e, R, s, m, args, below, meth, c, A, G⟩ := E
  intro hok H locs ls hP hD hS hl
  exact lv_astore_n hok.1 hok.2.1 hd hi hl hn hlv (fun ls' hl' => h hok H locs ls' hP hD hS hl')
theorem q_istore {i0 : Nat} {x : Int32} (hd : decode si.1 pc = .ok (.istore i0, 2)) (hn : i0 < si.2.2.1) (hlv : (i0, Value.int x) :: lv.filter (fun q => !(q.1 == i0) && !(q.1 + 1 == i0 && q.2.category == 2)) = lv') (h : CW E si cells slots Qf (pc + 2) lv' st ws) : CW E si cells slots Qf pc lv (.int x :: st) ws := by
  obtain ⟨p, l, e, R, s, m, args, below, meth, c, A, G⟩ := E
  intro hok H locs ls hP hD hS hl
  exact lv_istore hok.1 hok.2.1 hd hl hn hlv (fun ls' hl' => h hok H locs ls' hP hD hS hl')
end CWL
theorem world_P {G : XG} {f1 f2 : Nat → Nat} {q b : Nat} {H : Heap} (h : va_P G.1 vwCl ((w_X9 G f1 ++ w_X10 G f2) ++ [cO G q]) H) : va_P G.1 vwCl (wsW (G.1, G.2.1, alp f1 f2 q b) d0) H := by
  intro k x hk
  have hlt : k < NLb := by
    rcases Nat.lt_or_ge k NLb with z | z
    · exact z
    · rw [List.getElem?_eq_none (by simp [wsW]; exact z)] at hk
      cases hk
  rw [ws_at hlt] at hk
  have hx := Option.some.inj hk
  subst hx
  exact h k _ (world_ix G f1 f2 q b k hlt)
theorem world_D {G : XG} {f1 f2 : Nat → Nat} {q b : Nat} {A : Nat → Prop} (h : va_D A ((w_X9 G f1 ++ w_X10 G f2) ++ [cO G q])) : injL (alp f1 f2 q b) ∧ ∀ o, o < NLb → A (alp f1 f2 q b o) := by
  have key := world_ix G f1 f2 q b
  refine ⟨fun i j hi hj e => ?_, fun o ho => h.2 o _ (key o ho)⟩
  exact h.1 i j _ _ (key i hi) (key j hj) e

set_option maxRecDepth 100000 in
theorem whole_start_open (hp : ∀ (L : Nat) (xs : Nat → Int32), L ≤ 3072 → f_L_law_23 L xs 513 0 d0 = some ()) {p : Program} {e : Env} {s : State} {m : MethodId} {below : List Frame} {meth : Method} {c : Code} (l : Launch) (hflags : l.flags = flags0) {b L : Nat} {xs : Nat → Int32} (hL : L ≤ 3072) (C0 : lw_At p s m meth c b L xs) : W p l e room_1 s m #[Value.ref b] below meth c s.heap [] 0 0 (lw_Z below #[Value.ref b] s) (entryFrame m ([Value.ref b] : List Value).toArray 8) := by
  obtain ⟨hx, hb, hr, hml, hown, hts, hX, hbl, hlocks, hgv⟩ := C0
  have hWS : ∀ w ∈ WS, w.before #[Value.ref b] s = true := fun w h => hts w (WS_in w h)
  obtain ⟨c0, i0, h0k⟩ := u_known (C := RX0) (T := TX0) (N := 4) (n := 4) hWS uX0 (hWS _ iw_0)
  obtain ⟨c1, i1, h1k⟩ := u_known (C := RX1) (T := TX1) (N := 12) (n := 12) hWS uX1 (hWS _ iw_1)
  obtain ⟨c2, i2, h2k⟩ := u_known (C := RX2) (T := TX2) (N := 3) (n := 3) hWS uX2 (hWS _ iw_2)
  obtain ⟨c3, i3, h3k⟩ := u_known (C := RX3) (T := TX3) (N := 2) (n := 2) hWS uX3 (hWS _ iw_3)
  obtain ⟨c4, i4, h4k⟩ := u_known (C := RX4) (T := TX4) (N := 6) (n := 6) hWS uX4 (hWS _ iw_4)
  obtain ⟨c5, i5, h5k⟩ := u_known (C := RX5) (T := TX5) (N := 4) (n := 4) hWS uX5 (hWS _ iw_5)
  obtain ⟨c6, i6, h6k⟩ := u_known (C := RX6) (T := TX6) (N := 2) (n := 2) hWS uX6 (hWS _ iw_6)
  obtain ⟨c7, i7, h7k⟩ := u_known (C := RX7) (T := TX7) (N := 4) (n := 4) hWS uX7 (hWS _ iw_7)
  obtain ⟨c8, i8, h8k⟩ := u_known (C := RX8) (T := TX8) (N := 14) (n := 14) hWS uX8 (hWS _ iw_8)
  obtain ⟨c9, i9, h9k⟩ := u_known (C := RX9) (T := TX9) (N := 13) (n := 13) hWS uX9 (hWS _ iw_9)
  obtain ⟨c10, i10, h10k⟩ := u_known (C := RX10) (T := TX10) (N := 41) (n := 41) hWS uX10 (hWS _ iw_10)
  obtain ⟨dC, dI, hKc⟩ : ∃ (dC : Nat → ClassId) (dI : Nat → Nat → Nat), ∀ (k : Nat) (q : vw_C), vwCl[k]? = some q → u_Kn s q.1 q.2.1 q.2.2 (dC k) (dI k) := by
    refine ⟨fun k => [c0, c1, c2, c3, c4, c5, c6, c7, c8, c9, c10].getD k c0, fun k => [i0, i1, i2, i3, i4, i5, i6, i7, i8, i9, i10].getD k i0, ?_⟩
    intro k q hq
    match k, hq with
    | 0, hq => cases hq; exact h0k
    | 1, hq => cases hq; exact h1k
    | 2, hq => cases hq; exact h2k
    | 3, hq => cases hq; exact h3k
    | 4, hq => cases hq; exact h4k
    | 5, hq => cases hq; exact h5k
    | 6, hq => cases hq; exact h6k
    | 7, hq => cases hq; exact h7k
    | 8, hq => cases hq; exact h8k
    | 9, hq => cases hq; exact h9k
    | 10, hq => cases hq; exact h10k
    | k + 11, hq => simp [vwCl] at hq
  obtain ⟨cI, kI, pI, hI1, hI2, hI3⟩ := Cond.arrayClass_spec (hWS _ aw_int)
  obtain ⟨cJ, kJ, pJ, hJ1, hJ2, hJ3⟩ := Cond.arrayClass_spec (hWS _ aw_long)
  obtain ⟨cB, kB, pB, hB1, hB2, hB3⟩ := Cond.arrayClass_spec (hWS _ aw_byte)
  obtain ⟨cZ, kZ, pZ, hZ1, hZ2, hZ3⟩ := Cond.arrayClass_spec (hWS _ aw_boolean)
  obtain ⟨T4, hT4⟩ : ∃ T : ClassId × ClassId × ClassId × ClassId, T = (cI, cJ, cB, cZ) := ⟨_, rfl⟩
  obtain ⟨D, hD0⟩ : ∃ D : va_G, D = (dC, dI) := ⟨_, rfl⟩
  have hK : ∀ α : Nat → Nat, va_K D vwCl (tysT (D, T4, α)) s := by
    intro α
    subst hD0
    subst hT4
    refine ⟨hKc, fun k q hq => ?_⟩
    match k, hq with
    | 0, hq => cases hq; exact ⟨fun n z => ⟨fun k h => (by cases h), kI, hI2, pI, hI3⟩, hI1⟩
    | 1, hq => cases hq; exact ⟨fun n z => ⟨fun k h => (by cases h), kJ, hJ2, pJ, hJ3⟩, hJ1⟩
    | 2, hq => cases hq; exact ⟨fun n z => ⟨fun k h => (by cases h), kB, hB2, pB, hB3⟩, hB1⟩
    | 3, hq => cases hq; exact ⟨fun n z => ⟨fun k h => (by cases h), kZ, hZ2, pZ, hZ3⟩, hZ1⟩
    | k + 4, hq => simp [tysT] at hq
  have hN : ∀ q ∈ WN, va_Nw (NwL q) s := fun q hq => va_Nw.of rfl (hts _ (WN_in q hq))
  have hXW : XW s := fun w hw => va_Nw.of (List.all_eq_true.mp BX_t w hw) (hts w (BX_in w hw))
  have hl0 : l.stackTraces = false := by
    unfold Launch.stackTraces
    rw [hflags]
    decide +kernel
  have hgs := flat_of_before _ hgv
  have hZU : ZU (fun q : Nat => s.heap.size ≤ q) s s.heap := ⟨vx_Zqof (hts _ (by decide +kernel)) (hts _ (by decide +kernel)) (hgs _ (by decide +kernel)) (fun a h z => by omega), vx_Zqof (hts _ (by decide +kernel)) (hts _ (by decide +kernel)) (hgs _ (by decide +kernel)) (fun a h z => by omega)⟩
  have hl := lv_entry ([.ref b]) (n := 8) (Nat.le_of_ble_eq_true rfl)
  rw [lg_entry_eq]
  have hl : lv_has _ 8 [(0, .ref b)] := hl
  have key : CW (p, l, e, room_1, s, m, #[Value.ref b], below, meth, c, (fun q : Nat => s.heap.size ≤ q), (D, T4, fun _ : Nat => b)) si_law 0 0 (lw_Z below #[Value.ref b] s) 0 [(0, .ref b)] [] [] := by
    have hRC : RC (p, l, e, room_1, s, m, #[Value.ref b], below, meth, c, (fun q : Nat => s.heap.size ≤ q), (D, T4, fun _ : Nat => b)) 1141 19887 := ⟨Nat.le_refl _, Nat.le_refl _⟩
    generalize hE : (p, l, e, room_1, s, m, #[Value.ref b], below, meth, c, (fun q : Nat => s.heap.size ≤ q), (D, T4, fun _ : Nat => b)) = E at hRC ⊢
    refine q_new (ci := 9) [.null, .int 0, .int 0, .null, .null, .null, .int 0, .null, .null, .null, .null, .null, .null] rfl uX9 tyX9 tyX9_ok dv_9 clw_L_8 iw_9 nw_X9 (RC_mono hRC (Nat.le_of_ble_eq_true rfl) (Nat.le_of_ble_eq_true rfl)) dL_law_0 (fun q1 => ?_)
    refine q_dup dL_law_3 ?_
    refine q_callI (ws0 := []) (st := [.ref q1]) ac_X9 rfl rfl mw_L_25 iw_X9_init nw_X9 cw_X9_init (show plainF mi_X9_init 0 from by unfold plainF; decide +kernel) (by decide) (RC_mono hRC (Nat.le_of_ble_eq_true rfl) (Nat.le_of_ble_eq_true rfl)) dL_law_4 rfl (Nat.le_of_ble_eq_true rfl) (fun w1 hw1 => ?_)
    obtain ⟨f1, hf1, rfl⟩ := hw1
    subst hf1
    refine q_astore (lv' := [(1, .ref (f1 0)), (0, .ref b)]) dL_law_7 rfl (by decide) rfl ?_
    refine q_new (ci := 10) [.int 0, .null, .int 0, .int 0, .int 0, .int 0, .null, .null, .null, .null, .null, .null, .int 0, .int 0, .int 0, .int 0, .int 0, .int 0, .long 0, .int 0, .int 0, .null, .null, .int 0, .null, .null, .null, .null, .null, .null, .null, .null, .null, .null, .null, .int 0, .int 0, .int 0, .null, .null, .null] rfl uX10 tyX10 tyX10_ok dv_10 clw_L_26 iw_10 nw_X10 (RC_mono hRC (Nat.le_of_ble_eq_true rfl) (Nat.le_of_ble_eq_true rfl)) dL_law_8 (fun q2 => ?_)
    refine q_dup dL_law_11 ?_
    refine q_callI (ws0 := [] ++ w_X9 (EG E) f1) (st := [.ref q2]) ac_X10 rfl rfl mw_L_28 iw_X10_init nw_X10 cw_X10_init (show plainF mi_X10_init 0 from by unfold plainF; decide +kernel) (by decide) (RC_mono hRC (Nat.le_of_ble_eq_true rfl) (Nat.le_of_ble_eq_true rfl)) dL_law_12 rfl (Nat.le_of_ble_eq_true rfl) (fun w2 hw2 => ?_)
    obtain ⟨f2, hf2, rfl⟩ := hw2
    subst hf2
    refine q_astore (lv' := [(2, .ref (f2 0)), (1, .ref (f1 0)), (0, .ref b)]) dL_law_15 rfl (by decide) rfl ?_
    refine q_iconst dL_law_16 ki_1 ?_
    refine q_newa (k := 1) (t0 := 1) (ty := .long) (a0 := (1, .inr (.inl fun _ => 0))) rfl (fun _ h => by cases h) rfl dL_law_17 aw_long (by decide) rfl (RC_mono hRC (Nat.le_of_ble_eq_true rfl) (Nat.le_of_ble_eq_true rfl)) (by decide) (fun _ => rfl) (fun q3 => ?_)
    refine q_astore (lv' := [(3, .ref q3), (2, .ref (f2 0)), (1, .ref (f1 0)), (0, .ref b)]) dL_law_19 rfl (by decide) rfl ?_
    refine q_iconst dL_law_20 ki_0 ?_
    refine q_istore (lv' := [(4, .int 0), (3, .ref q3), (2, .ref (f2 0)), (1, .ref (f1 0)), (0, .ref b)]) dL_law_21 (by decide) rfl ?_
    subst hE
    intro hok H locs ls hP hD hS hl
    rw [List.nil_append] at hP hD
    have hP2 := world_P (G := (D, T4, fun _ : Nat => b)) (f1 := f1) (f2 := f2) (q := q3) (b := b) hP
    obtain ⟨hinj, hA⟩ := world_D (G := (D, T4, fun _ : Nat => b)) (f1 := f1) (f2 := f2) (q := q3) (b := b) hD
    have hF : LF (p, l, e, room_1, s, m, #[Value.ref b], below, meth, c, (fun q : Nat => s.heap.size ≤ q), (D, T4, alp f1 f2 q3 b)) L xs := ⟨rfl, hl0, hZU, hXW, hX, Nat.not_le.mpr hbl, hbl⟩
    have hgo := w_L_law_23 (E := (p, l, e, room_1, s, m, #[Value.ref b], below, meth, c, (fun q : Nat => s.heap.size ≤ q), (D, T4, alp f1 f2 q3 b))) hF rfl (fun q h => h) 513 (0 + 1 + 85 + 1 + 23 + 1) (0 + 13 + 8609 + 41 + 2995 + 1) (by omega) (by omega) 0 d0
    exact hgo ⟨hx, hb, hown, hml, hr, Nat.le_refl _, Nat.le_refl _, hlocks, hWS, hN, hK _, hinj, hA⟩ () (hp L xs hL) H locs ls hP2 hS (lv_sub hl [4, 3, 2, 1, 0] rfl)
  exact key ⟨hx, hb, hown, hml, hr, Nat.le_refl _, Nat.le_refl _, hlocks, hWS, hN, hK _, fun q h => h⟩ s.heap [] _ (fun k q h => by simp at h) ⟨fun i j p q h => by simp at h, fun k q h => by simp at h⟩ va_S.rf hl
