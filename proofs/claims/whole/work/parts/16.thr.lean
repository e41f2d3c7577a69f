-- METHODS THAT MAY THROW, and their catchers in the law
abbrev NSE : String := "java/util/NoSuchElementException"
abbrev nsN : List String := ["java/lang/RuntimeException", "java/lang/Exception"]
abbrev atX : List Cond := vx_at0 RX9 119 NSE nsN
def BXs : List Cond := atX.filter (fun w => !goodWord w)
theorem BX_k : BXs.all (fun w => match w with | .castable .. => true | .declares .. => true | _ => false) = true := by decide +kernel
theorem BX_t : BXs.all (fun w => w.onTables) = true := by decide +kernel
theorem BX_c : Cond.castable NSE NSE ∈ BXs := by decide +kernel
theorem BX_in : ∀ w ∈ BXs, w ∈ lw_tbl := by decide +kernel
def XW (U : State) : Prop := ∀ w ∈ BXs, va_Nw w U
theorem XW_warm {s U : State} (hW : s.WarmedH U.vm) (h : XW s) : XW U := by
  intro w hw
  have h1 := List.all_eq_true.mp BX_k w hw
  have h2 := h w hw
  cases w <;> first | exact va_Nw.warmC hW h2 | exact va_Nw.warmD hW h2 | exact absurd h1 (by simp)
theorem XW_same {u U : State} (e : u.vm = U.vm) (h : XW u) : XW U := fun w hw => va_Nw.same (List.all_eq_true.mp BX_t w hw) e (h w hw)
theorem atX_ot : ∀ w ∈ Cond.classLink RX9 117 NSE :: Cond.initialized NSE :: atX, vx_ot w = true := by decide +kernel
theorem atX_in0 : ∀ w ∈ Cond.classLink RX9 117 NSE :: Cond.initialized NSE :: atX.filter goodWord, w ∈ lw_tbl := by decide +kernel
theorem atX_good : ∀ w ∈ Cond.classLink RX9 117 NSE :: Cond.initialized NSE :: atX.filter goodWord, goodWord w = true := by decide +kernel
theorem atX_in : ∀ w ∈ Cond.classLink RX9 117 NSE :: Cond.initialized NSE :: atX.filter goodWord, w ∈ WS := fun w h => List.mem_filter.mpr ⟨atX_in0 w h, atX_good w h⟩
theorem atX_all {args : Array Value} {s : State} (h : ∀ w ∈ WS, w.before args s = true) (hc : XW s) : ∀ w ∈ atX, w.before args s = true := by
  intro w hw
  by_cases g : goodWord w = true
  · exact h w (atX_in w (List.mem_cons_of_mem _ (List.mem_cons_of_mem _ (List.mem_filter.mpr ⟨hw, g⟩))))
  · have : w ∈ BXs := List.mem_filter.mpr ⟨hw, by simp [g]⟩
    exact va_Nw.use (List.all_eq_true.mp BX_t w this) (hc w this)
abbrev ZU (A : Nat → Prop) (U : State) (H : Heap) : Prop := vx_Zq Bundle.tN "UNASSIGNED_STACK" Bundle.steD A U H ∧ vx_Zq Bundle.tN "SUPPRESSED_SENTINEL" Bundle.listD A U H
def PcX (G : XG) (as : List Value) (d : DD) : Array Value → State → Prop := fun a U => PcW G as d a U ∧ ZU (AG G) U U.heap ∧ XW U
def QcX (G : XG) (A : Nat → Prop) {β : Type} (wr : β → Option Value) (i : Option β × DD) : Array Value → State → Outcome → State → Prop := fun _ st oc t => (∃ r, i.1 = some r ∧ oc = .returned ((wr r).map (rn G.2.2))) ∧ va_P G.1 vwCl (wsW G i.2) t.heap ∧ va_F A st t
def XCX (G : XG) (A : Nat → Prop) {β : Type} (i : Option β × DD) : String → State → State → Prop := fun E st t => i.1 = none ∧ E = NSE ∧ va_P G.1 vwCl (wsW G i.2) t.heap ∧ va_F A st t
def AX {β : Type} (wr : β → Option Value) (mi : MI) (fr lc : Nat) (as : List Value) (d : DD) (o : Option (Option β × DD)) : Prop :=
  ∀ (l : Launch), l.stackTraces = false → ∀ (G : XG) (i : Option β × DD), o = some i → vx_Met l mi.1 (wsM mi) { frames := fr, cells := 1, slots := 6, locals := lc } (PcX G as d) (QcX G (AG G) wr i) (XCX G (AG G) i) 1 6 (AG G)
def QX (E : XE) {β : Type} (wr : β → Option Value) (i : Option β × DD) : State → Prop := match E with
  | (_, _, _, _, s, _, args, below, _, _, A, G) => vx_MQ below (QcX G A wr i) (XCX G A i) args s 1 6 A
def Q1 (E : XE) {β : Type} (wr : β → Option Value) (i : β × DD) : State → Prop := match E with
  | (_, _, _, _, s, _, args, below, _, _, A, G) => MQ below (QcW G A wr i) args s 1 6 A
/-- what a walk that may throw stands on besides: no traces, the two statics, the table of handlers -/
def XF (E : XE) (hh : List (Nat × Nat × Nat × Nat)) : Prop := match E with
  | (_, l, _, R, s, _, _, _, _, c, A, _) => l.stackTraces = false ∧ ZU A s s.heap ∧ c.exceptionTable.toList = tableOf hh ∧ 1 ≤ R.cells ∧ 6 ≤ R.slots ∧ XW s
theorem PcX_blind (G : XG) (as : List Value) (d : DD) : FrameBlind (PcX G as d) := by
  intro a U g mk h
  refine ⟨PcW_blind G as d a U g mk h.1, ?_⟩
  exact ⟨⟨vx_Zq.moved (u := U) (U := U.calling g mk a) (H := U.heap) (Vm.Alike.refl U.vm) h.2.1.1, vx_Zq.moved (u := U) (U := U.calling g mk a) (H := U.heap) (Vm.Alike.refl U.vm) h.2.1.2⟩, XW_same (u := U) (U := U.calling g mk a) rfl h.2.2⟩
theorem va_P_kept {D : va_G} {cl : List vw_C} {ws : va_W} {H H1 : Heap} (h : va_P D cl ws H) (hq : ∀ q : Nat, q < H.size → H1[q]? = H[q]?) : va_P D cl ws H1 :=
  fun k q hk => (h k q hk).kept (hq q.1 (h k q hk).lt)
section AT
variable {E : XE} {si : SI} {pc : Nat} {lv : List (Nat × Value)} {d : DD}
theorem r_throw {β : Type} {wr : β → Option Value} (hX : XF E []) (hsi : si.2.1 = RX9) (d0 : decode si.1 pc = .ok (.new 117, 3)) (d3 : decode si.1 (pc + 3) = .ok (.dup, 1)) (d4 : decode si.1 (pc + 4) = .ok (.invokespecial 119, 3)) (d7 : decode si.1 (pc + 7) = .ok (.athrow, 1)) (hR : 6 ≤ si.2.2.2.2.1 ∧ 81 ≤ si.2.2.2.2.2) : AW E si 0 0 (QX E wr) (some (none, d)) pc lv [] d := by
  obtain ⟨p, l, e, R, s, m, args, below, meth, c, A, G⟩ := E
  intro hok i hi H locs ls hP hS hl
  obtain ⟨hx, hb, hown, hml, hrt, hf1, hf2, hlk, hts, hN, hK, hinj, hA⟩ := hok
  obtain ⟨hl0, hZ, htb, hc1, hc2, hca⟩ := hX
  cases hi
  rw [hsi] at hown
  refine vx_throw0 (A := A) (cls := NSE) (names := nsN) hx hb hl0 hown (by decide +kernel) (by decide +kernel) (hts _ (atX_in _ List.mem_cons_self)) (hts _ (atX_in _ (List.mem_cons_of_mem _ List.mem_cons_self))) (atX_all hts hca) atX_ot hZ.1 hZ.2 hS (hl.1.trans hml.symm) d0 d3 d4 d7 (fun x hx => by rw [htb] at hx; cases hx) (by have := hR.1; show 2 + 3 < R.frames; omega) (by have := hR.2; show 0 + (13 * (2 + 1) + 42) ≤ R.locals; omega) (by omega) (by omega) hlk (fun t ha hz hk => ⟨rfl, rfl, va_P_kept hP hk, Nat.le_trans hS.1 hz, fun q h1 h2 => by rw [hk q (Nat.lt_of_lt_of_le h1 hS.1)]; exact hS.2.1 q h1 h2⟩) hS.2.2 (by omega) (by omega)
theorem r_xireturn {x : Int32} (hd : decode si.1 pc = .ok (.ireturn, 1)) (hr : si.2.2.2.1 = some .int) : AW E si 0 0 (QX E wrI) (some (some x, d)) pc lv [.int x] d := by
  obtain ⟨p, l, e, R, s, m, args, below, meth, c, A, G⟩ := E
  intro hok i hi H locs ls hP hS hl
  obtain ⟨hx, hb, hown, hml, hrt, hf1, hf2, hlk, hts, hN, hK, hinj, hA⟩ := hok
  cases hi
  exact vx_ret (W.widen (k := 1) (n := 6) (by omega) (by omega) (W.iret (v := x) hx hb (hrt.trans hr) (fun t ht hW => ⟨⟨x, rfl, rfl⟩, by rw [ht]; exact hP, hS.F ht⟩) hS.2.2 hd hlk))
theorem r_xlreturn {x : Int64} (hd : decode si.1 pc = .ok (.lreturn, 1)) (hr : si.2.2.2.1 = some .long) : AW E si 0 0 (QX E wrL) (some (some x, d)) pc lv [.long x] d := by
  obtain ⟨p, l, e, R, s, m, args, below, meth, c, A, G⟩ := E
  intro hok i hi H locs ls hP hS hl
  obtain ⟨hx, hb, hown, hml, hrt, hf1, hf2, hlk, hts, hN, hK, hinj, hA⟩ := hok
  cases hi
  exact vx_ret (W.widen (k := 1) (n := 6) (by omega) (by omega) (W.lret (v := x) hx hb (hrt.trans hr) (fun t ht hW => ⟨⟨x, rfl, rfl⟩, by rw [ht]; exact hP, hS.F ht⟩) hS.2.2 hd hlk))
theorem r_ireturn1 {x : Int32} (hd : decode si.1 pc = .ok (.ireturn, 1)) (hr : si.2.2.2.1 = some .int) : AW E si 1 6 (Q1 E wrI) (some (x, d)) pc lv [.int x] d := by
  obtain ⟨p, l, e, R, s, m, args, below, meth, c, A, G⟩ := E
  intro hok i hi H locs ls hP hS hl
  obtain ⟨hx, hb, hown, hml, hrt, hf1, hf2, hlk, hts, hN, hK, hinj, hA⟩ := hok
  cases hi
  exact W.iret (v := x) hx hb (hrt.trans hr) (fun t ht hW => ⟨rfl, by rw [ht]; exact hP, hS.F ht⟩) hS.2.2 hd hlk
end AT
theorem AX_intro {β : Type} {wr : β → Option Value} {mi : MI} {fr lc : Nat} {as : List Value} {d : DD} {o : Option (Option β × DD)} {si : SI} {lv : List (Nat × Value)} (hsi : si = (mi.2.1, mi.1.cls, mi.2.2.1, mi.2.2.2, fr, lc)) (hpl : plainName mi.1.cls = true) (hlv : lv_args 0 as = lv) (hlen : (lg_sl as).length ≤ mi.2.2.1) (body : ∀ E : XE, XF E [] → AW E si 0 0 (QX E wr) o 0 lv [] d) : AX wr mi fr lc as d o := by
  intro l hl0 G i hi
  subst hsi
  subst hlv
  refine vx_ofW (cc := mi.2.1) (maxL := mi.2.2.1) (ret := mi.2.2.2) hpl rfl ?_
  intro p e s m args below meth c s₁ B hml htab hv
  obtain ⟨⟨rfl, hP, hK, hN, hinj⟩, hZ, hca⟩ := hv
  have hts := atoms_spec (ws := wsM mi) B.pre
  have hown : s.vm.findClass mi.1.cls = some m.cls := findClass_of_methodNamed B.named
  have hlk := B.notSynchronized
  rw [lg_entry_eq]
  have hl := lv_entry (as.map (rn G.2.2)) (n := mi.2.2.1) (by rw [lg_sl_len]; exact hlen)
  rw [lv_args_map] at hl
  have ht2 : c.exceptionTable.toList = tableOf [] := by
    cases h : c.exceptionTable.toList with
    | nil => rfl
    | cons x t => exact (htab x (by rw [h]; exact List.mem_cons_self)).elim
  exact body (p, l, e, (headSpec (wsM mi) { frames := fr, cells := 1, slots := 6, locals := lc }).room, s, m, _, below, meth, c, AG G, G) ⟨hl0, hZ, ht2, Nat.le_refl _, Nat.le_refl _, hca⟩ ⟨B.exec, B.bytes, hown, hml, B.returns, Nat.le_refl _, Nat.le_refl _, hlk, fun w hw => hts w (List.mem_cons_of_mem _ hw), hN, hK, hinj, fun o ho => ⟨o, ho, rfl⟩⟩ i hi s.heap [] _ hP va_S.rf hl
-- the catchers
def wsH (mi : MI) (hh : List (Nat × Nat × Nat × Nat)) : List Cond := Cond.codeWith mi.1 mi.2.1 mi.2.2.1 mi.2.2.2 hh :: WS
def AH {β : Type} (wr : β → Option Value) (mi : MI) (hh : List (Nat × Nat × Nat × Nat)) (fr lc : Nat) (as : List Value) (d : DD) (o : Option (β × DD)) : Prop :=
  ∀ (l : Launch), l.stackTraces = false → ∀ (G : XG) (i : β × DD), o = some i → Met l mi.1 (wsH mi hh) { frames := fr, cells := 1, slots := 6, locals := lc } (PcX G as d) (QcW G (AG G) wr i) 1 6 (AG G)
theorem AH_intro {β : Type} {wr : β → Option Value} {mi : MI} {hh : List (Nat × Nat × Nat × Nat)} {fr lc : Nat} {as : List Value} {d : DD} {o : Option (β × DD)} {si : SI} {lv : List (Nat × Value)} (hsi : si = (mi.2.1, mi.1.cls, mi.2.2.1, mi.2.2.2, fr, lc)) (hpl : plainName mi.1.cls = true) (hlv : lv_args 0 as = lv) (hlen : (lg_sl as).length ≤ mi.2.2.1) (body : ∀ E : XE, XF E hh → AW E si 0 0 (Q1 E wr) o 0 lv [] d) : AH wr mi hh fr lc as d o := by
  intro l hl0 G i hi
  subst hsi
  subst hlv
  refine va_MetW (cc := mi.2.1) (maxL := mi.2.2.1) (ret := mi.2.2.2) (hh := hh) hpl rfl ?_
  intro p e s m args below meth c s₁ B hml hv
  obtain ⟨⟨rfl, hP, hK, hN, hinj⟩, hZ, hca⟩ := hv
  have hts := atoms_spec (ws := wsH mi hh) B.pre
  have hown : s.vm.findClass mi.1.cls = some m.cls := findClass_of_methodNamed B.named
  have hlk := B.notSynchronized
  have ht2 : c.exceptionTable.toList = tableOf hh := vx_table (x := mi.1) (y := mi.1) (bytes := mi.2.1) (maxL' := mi.2.2.1) (ret' := mi.2.2.2) (hh := hh) B (hts _ List.mem_cons_self)
  rw [lg_entry_eq]
  have hl := lv_entry (as.map (rn G.2.2)) (n := mi.2.2.1) (by rw [lg_sl_len]; exact hlen)
  rw [lv_args_map] at hl
  exact body (p, l, e, (headSpec (wsH mi hh) { frames := fr, cells := 1, slots := 6, locals := lc }).room, s, m, _, below, meth, c, AG G, G) ⟨hl0, hZ, ht2, Nat.le_refl _, Nat.le_refl _, hca⟩ ⟨B.exec, B.bytes, hown, hml, B.returns, Nat.le_refl _, Nat.le_refl _, hlk, fun w hw => hts w (List.mem_cons_of_mem _ hw), hN, hK, hinj, fun o ho => ⟨o, ho, rfl⟩⟩ i hi s.heap [] _ hP va_S.rf hl
theorem after_vx {p : Program} {l : Launch} {e : Env} {R : Room} {s : State} {m : MethodId} {args : Array Value} {below : List Frame} {meth : Method} {c : Code} {A : Nat → Prop} {G : XG} {Q : State → Prop} {β : Type} {wr : β → Option Value} {i : Option β × DD} {pc : Nat} {ls : Array Slot} {st0 rest : List Value} {aa : Array Value} {H : Heap} {locs : List Loc}
    (hr : vx_Run p l e R s m args below meth c H locs 0 0 1 6 (F0 m pc ls st0) rest (QcX G (AG G) wr i aa) (XCX G (AG G) i) (AG G)) (hS : va_S A s.heap H locs) (hA : ∀ o, o < NLb → A (G.2.2 o))
    (kx : i.1 = none → ∀ (H1 : Heap) (locs1 : List Loc) (q : Addr) (ce : Cell), va_P G.1 vwCl (wsW G i.2) H1 → va_S A s.heap H1 locs1 → H1[q]? = some ce → ce.vm = .none → s.vm.findClass NSE = some ce.cls → vx_W p l e R s m args below meth c H1 locs1 1 6 Q (F0 m pc ls rest) q)
    (kk : ∀ (r : β) (H1 : Heap) (locs1 : List Loc), i.1 = some r → va_P G.1 vwCl (wsW G i.2) H1 → va_S A s.heap H1 locs1 → W p l e R s m args below meth c H1 locs1 1 6 Q (F0 m (pc + 3) ls (((wr r).map (rn G.2.2)).toList ++ rest))) : W p l e R s m args below meth c H locs 0 0 Q (F0 m pc ls st0) := by
  have hAG : ∀ q, AG G q → A q := fun q ⟨k, h1, h2⟩ => h2 ▸ hA k h1
  intro T hT X
  rcases hr T hT X with ⟨v, st₀, t, T', L, h0, X', hL, e1, e2, ⟨⟨r, hr1, hv⟩, hp, hF⟩, st⟩ | ⟨q, st₀, t, T', L, E, ce, h0, X', hL, e1, e2, ⟨hn, hE, hp, hF⟩, hce, hcv, hcl, st⟩
  · cases hv
    obtain ⟨k1, k2, k3⟩ := vx_keep h0 e1 hS (fun q _ h => hAG q h) hAG hL hF
    obtain ⟨t2, a1, b1⟩ := kk r T'.heap (locs ++ L) hr1 (by rw [e1]; exact hp) k3 T' rfl X'
    exact ⟨t2, st t2 a1, b1⟩
  · subst hE
    obtain ⟨k1, k2, k3⟩ := vx_keep h0 e1 hS (fun q _ h => hAG q h) hAG hL hF
    obtain ⟨t2, a1, b1⟩ := kx hn T'.heap (locs ++ L) q ce (by rw [e1]; exact hp) k3 (by rw [e1]; exact hce) hcv hcl T' rfl X'
    exact ⟨t2, st.trans a1, b1⟩
def thr {β ι : Type} (x : Option β × DD) (n : DD → Option ι) (f : β → DD → Option ι) : Option ι := match x.1 with
  | none => n x.2
  | some r => f r x.2
theorem thr_none {β ι : Type} {x : Option β × DD} {n : DD → Option ι} {f : β → DD → Option ι} (h : x.1 = none) : thr x n f = n x.2 := by unfold thr; rw [h]
theorem thr_some {β ι : Type} {x : Option β × DD} {n : DD → Option ι} {f : β → DD → Option ι} {r : β} (h : x.1 = some r) : thr x n f = f r x.2 := by unfold thr; rw [h]
theorem r_callX {E : XE} {si : SI} {pc : Nat} {lv : List (Nat × Value)} {d : DD} {β : Type} {wr : β → Option Value} {mi : MI} {fr lc idx b cc s0 s1 hp k0 : Nat} {T : u_T} {N : Nat} {as stk : List Value} {oc : Option (Option β × DD)} {K : β → DD → Option (Int32 × DD)} (st : List Value) (hX : XF E [(s0, s1, hp, 13)]) (hsi : si.2.1 = RL) (hM : AX wr mi fr lc (.ref b :: as) d oc) (hk : kd b = cc + 4) (hc : vwCl[cc]? = some (mi.1.cls, T, N)) (hcf : CFv mi as.length) (hl : Cond.methodLink si.2.1 idx mi.1 ∈ WS) (hR : fr + 1 ≤ si.2.2.2.2.1 ∧ 8 + (mi.2.2.1 + 11) + lc ≤ si.2.2.2.2.2) (hd : decode si.1 pc = .ok (.invokevirtual idx, 3)) (hstk : as.reverse ++ .ref b :: st = stk) (hsum : (st.map fun v => v.category).sum ≤ 8)
    (hcov : s0 ≤ pc ∧ pc < s1) (hcl : Cond.classLink RL 13 NSE ∈ WS) (dh0 : decode si.1 hp = .ok (.astore k0, 2)) (dh1 : decode si.1 (hp + 2) = .ok (.iconst 1, 1)) (dh2 : decode si.1 (hp + 3) = .ok (.ireturn, 1)) (hk0 : k0 < si.2.2.1) (hrt9 : si.2.2.2.1 = some .int)
    (h : ∀ (r : β) (d1 : DD), AW E si 1 6 (Q1 E wrI) (K r d1) (pc + 3) lv ((wr r).toList ++ st) d1) : AW E si 0 0 (Q1 E wrI) (oc.bind fun q => thr q (fun d1 => some ((1 : Int32), d1)) K) pc lv stk d := by
  obtain ⟨p, l, e, R, s, m, args, below, meth, c, A, G⟩ := E
  intro hok i hi H locs ls hP hS hl2
  subst hstk
  obtain ⟨q, hq, hi⟩ := Option.bind_eq_some_iff.mp hi
  obtain ⟨hx, hb, hown, hml, hrt, hf1, hf2, hlk, hts, hN, hK, hinj, hA⟩ := id hok
  obtain ⟨hl0, hZ, htb, hc1, hc2, hca⟩ := hX
  obtain ⟨hst, hsel, hini, hcd, hpl⟩ := hcf
  have hbl : b < NLb := kd_lt hk (by have : cc < vwCl.length := (List.getElem?_eq_some_iff.mp hc).1; have : vwCl.length = 11 := rfl; omega)
  have hAG : ∀ q, AG G q → A q := fun q ⟨k, h1, h2⟩ => h2 ▸ hA k h1
  rw [rev_app]
  refine after_vx (aa := ((.ref b :: as).map (rn G.2.2)).toArray) (vx_runV (As := as.map (rn G.2.2)) (b := G.2.2 b) (rest := st.map (rn G.2.2)) (bytes := mi.2.1) (maxL := mi.2.2.1) (ret := mi.2.2.2) (n := as.length) (Ts := WS) (nL := si.2.2.1) (own := si.2.1) (C := mi.1.cls) ⟨hx, hb, hml, hown, hts⟩ (hM l hl0 G q hq) ⟨callB_of _ hts (wsM_good hcd) rfl rfl rfl (hts _ hini) (hts _ hl) hpl ⟨Nat.le_trans hR.1 hf1, Nat.le_trans hR.2 hf2⟩, hts _ hst, hts _ hsel⟩ ⟨PcX_blind G _ d, va_recv hK hP (ci := cc) (q0 := b) hc (by rw [ws_at hbl, cel_obj hk]), fun U hU hW => ⟨PcW_at (as := .ref b :: as) hU hW hP hN hK hinj, ?_⟩⟩ rfl (by simp) hl2.1 rfl ?_ hd ⟨hc1, hc2⟩) hS hA (fun hn H1 locs1 q9 ce hP1 hS1 hce hcv hcl9 => ?_) (fun r H1 locs1 hr1 hP1 hS1 => ?_)
  · rw [hU]
    exact ⟨⟨((vx_Zq.moved hW.alike hZ.1).kept hS.2.1).narrow hAG, ((vx_Zq.moved hW.alike hZ.2).kept hS.2.1).narrow hAG⟩, XW_warm hW hca⟩
  · rw [cat_sum]
    exact lv_room hsum
  · rw [hsi] at hown
    refine vx_catch (own := RL) (name := NSE) (E := NSE) hown [] ⟨s0, s1, hp, 13⟩ [] (by rw [htb]; rfl) (fun z hz => by cases hz) (by simp [covers, hcov.1, hcov.2]) (show (13 : Nat) ≠ 0 by decide) (hts _ hcl) (va_Nw.use rfl (hca _ BX_c)) hce hcv hcl9 ?_
    have hi' : (some ((1 : Int32), q.2) : Option (Int32 × DD)) = some i := by
      rw [thr_none hn] at hi
      exact hi
    cases hi'
    refine lv_astore hx hb dh0 hl2 hk0 rfl (fun ls' hl' => ?_)
    refine lv_iconst (v := 1) hx hb dh1 (by decide) ?_
    exact W.iret (v := 1) hx hb (hrt.trans hrt9) (fun t ht hW => ⟨rfl, by rw [ht]; exact hP1, hS1.F ht⟩) hS1.2.2 dh2 hlk
  · rw [wr_list]
    rw [thr_some hr1] at hi
    exact h r q.2 hok i hi H1 locs1 ls hP1 hS1 hl2
