-- METHODS: what one does to the numbers, as a function; calls, ends
def AG (G : XG) : Nat → Prop := fun q => ∃ k, k < NLb ∧ q = G.2.2 k
def PcW (G : XG) (as : List Value) (d : DD) : Array Value → State → Prop := fun a U => a = (as.map (rn G.2.2)).toArray ∧ va_P G.1 vwCl (wsW G d) U.heap ∧ va_K G.1 vwCl (tysT G) U ∧ (∀ q ∈ WN, va_Nw (NwL q) U) ∧ injL G.2.2
def QcW (G : XG) (A : Nat → Prop) {β : Type} (wr : β → Option Value) (i : β × DD) : Array Value → State → Outcome → State → Prop := fun _ st oc t => oc = .returned ((wr i.1).map (rn G.2.2)) ∧ va_P G.1 vwCl (wsW G i.2) t.heap ∧ va_F A st t
def wsM (mi : MI) : List Cond := Cond.code mi.1 mi.2.1 mi.2.2.1 mi.2.2.2 :: WS
def AM {β : Type} (wr : β → Option Value) (mi : MI) (fr lc : Nat) (as : List Value) (d : DD) (o : Option (β × DD)) : Prop :=
  ∀ (l : Launch) (G : XG) (i : β × DD), o = some i → Met l mi.1 (wsM mi) { frames := fr, cells := 0, slots := 0, locals := lc } (PcW G as d) (QcW G (AG G) wr i) 0 0 (AG G)
def QM (E : XE) {β : Type} (wr : β → Option Value) (i : β × DD) : State → Prop := match E with
  | (_, _, _, _, s, _, args, below, _, _, A, G) => MQ below (QcW G A wr i) args s 0 0 A
def wrI (x : Int32) : Option Value := some (.int x)
def wrL (x : Int64) : Option Value := some (.long x)
def wrU (_ : Unit) : Option Value := none
def wrR (x : Option Nat) : Option Value := some (va_rf x)
theorem PcW_blind (G : XG) (as : List Value) (d : DD) : FrameBlind (PcW G as d) := by
  intro a U g mk h
  obtain ⟨h1, h2, h3, h4, h5⟩ := h
  exact ⟨h1, h2, va_K.moved (u := U) (U := U.calling g mk a) (Vm.Alike.refl U.vm) h3, fun q hq => va_Nw.same (u := U) (U := U.calling g mk a) rfl rfl (h4 q hq), h5⟩
theorem PcW_at {G : XG} {as : List Value} {d : DD} {s U : State} {H : Heap} (hU : U.heap = H) (hW : s.WarmedH U.vm) (hP : va_P G.1 vwCl (wsW G d) H) (hN : ∀ q ∈ WN, va_Nw (NwL q) s) (hK : va_K G.1 vwCl (tysT G) s) (hi : injL G.2.2) : PcW G as d (as.map (rn G.2.2)).toArray U :=
  ⟨rfl, by rw [hU]; exact hP, va_K.moved hW.alike hK, fun q hq => va_Nw.warmM hW (hN q hq), hi⟩
theorem after_run {p : Program} {l : Launch} {e : Env} {R : Room} {s : State} {m : MethodId} {args : Array Value} {below : List Frame} {meth : Method} {c : Code} {A : Nat → Prop} {G : XG} {cells slots : Nat} {Q : State → Prop} {β : Type} {wr : β → Option Value} {i : β × DD} {pc : Nat} {ls : Array Slot} {st0 rest : List Value} {aa : Array Value} {H : Heap} {locs : List Loc}
    (hr : va_Run p l e R s m args below meth c H locs cells slots 0 0 (F0 m pc ls st0) rest (QcW G (AG G) wr i aa) (AG G)) (hS : va_S A s.heap H locs) (hA : ∀ o, o < NLb → A (G.2.2 o))
    (kk : ∀ (H1 : Heap) (locs1 : List Loc), va_P G.1 vwCl (wsW G i.2) H1 → va_S A s.heap H1 locs1 → W p l e R s m args below meth c H1 locs1 cells slots Q (F0 m (pc + 3) ls (((wr i.1).map (rn G.2.2)).toList ++ rest))) : W p l e R s m args below meth c H locs cells slots Q (F0 m pc ls st0) := by
  have hAG : ∀ q, AG G q → A q := fun q ⟨k, h1, h2⟩ => h2 ▸ hA k h1
  intro T hT X
  obtain ⟨v, st₀, t, T', L, h0, X', hL, e1, e2, ⟨hv, hp, hz, hk⟩, st⟩ := hr T hT X
  cases hv
  rw [h0] at hz hk
  obtain ⟨t2, a1, b1⟩ := kk T'.heap (locs ++ L) (by rw [e1]; exact hp) ⟨Nat.le_trans hS.1 (by rw [e1]; exact hz), fun q h1 h2 => by rw [e1, hk q (Nat.lt_of_lt_of_le h1 hS.1) (fun z => h2 (hAG q z))]; exact hS.2.1 q h1 h2, fun q hq => by
      rcases List.mem_append.mp hq with h | h
      · exact hS.2.2 q h
      · exact hAG _ (hL q h)⟩ T' rfl X'
  exact ⟨t2, st t2 a1, b1⟩
theorem wr_list {α : Nat → Nat} (v : Option Value) (st : List Value) : (v.map (rn α)).toList ++ st.map (rn α) = (v.toList ++ st).map (rn α) := by cases v <;> rfl
theorem cat_sum {α : Nat → Nat} (st : List Value) : ((st.map (rn α)).map fun v => v.category).sum = (st.map fun v => v.category).sum := by
  rw [List.map_map]
  congr 1
  apply List.map_congr_left
  intro v _
  exact rn_cat α v
theorem rev_app {α : Nat → Nat} (as st : List Value) : (as.reverse ++ st).map (rn α) = (as.map (rn α)).reverse ++ st.map (rn α) := by
  rw [List.map_append, List.map_reverse]
def plainF (mi : MI) (n : Nat) : Prop := mi.1.cls ≠ "java/lang/invoke/MethodHandle" ∧ mi.1.cls ≠ "java/lang/invoke/VarHandle" ∧ (parseMethodDescriptor mi.1.desc).map (fun d => d.parameters.length) = some n
def CFs (mi : MI) (n : Nat) : Prop := Cond.static mi.1 ∈ WS ∧ Cond.initialized mi.1.cls ∈ WS ∧ Cond.code mi.1 mi.2.1 mi.2.2.1 mi.2.2.2 ∈ WS ∧ plainF mi n
def CFv (mi : MI) (n : Nat) : Prop := Cond.instanceMethod mi.1 ∈ WS ∧ Cond.selects mi.1.cls mi.1 mi.1 ∈ WS ∧ Cond.initialized mi.1.cls ∈ WS ∧ Cond.code mi.1 mi.2.1 mi.2.2.1 mi.2.2.2 ∈ WS ∧ plainF mi n
theorem wsM_good {mi : MI} (h : Cond.code mi.1 mi.2.1 mi.2.2.1 mi.2.2.2 ∈ WS) : GoodIn WS (wsM mi) := by
  intro w hw
  rcases List.mem_cons.mp hw with rfl | hw
  · exact WS_good _ h
  · exact WS_good _ hw
section AC
variable {E : XE} {si : SI} {cells slots : Nat} {ι : Type} {Qf : ι → State → Prop} {pc : Nat} {lv : List (Nat × Value)} {d : DD}
theorem r_callS {β : Type} {wr : β → Option Value} {mi : MI} {fr lc idx : Nat} {as stk : List Value} {oc : Option (β × DD)} {k : β × DD → Option ι} (st : List Value) (hM : AM wr mi fr lc as d oc) (hcf : CFs mi as.length) (hl : Cond.methodLink si.2.1 idx mi.1 ∈ WS) (hR : fr + 1 ≤ si.2.2.2.2.1 ∧ 8 + (mi.2.2.1 + 11) + lc ≤ si.2.2.2.2.2) (hd : decode si.1 pc = .ok (.invokestatic idx, 3)) (hstk : as.reverse ++ st = stk) (hsum : (st.map fun v => v.category).sum ≤ 8) (hcs : cells = 0 ∧ slots = 0)
    (h : ∀ q : β × DD, AW E si cells slots Qf (k q) (pc + 3) lv ((wr q.1).toList ++ st) q.2) : AW E si cells slots Qf (oc.bind k) pc lv stk d := by
  obtain ⟨p, l, e, R, s, m, args, below, meth, c, A, G⟩ := E
  intro hok i hi H locs ls hP hS hl2
  subst hstk
  obtain ⟨q, hq, hi⟩ := Option.bind_eq_some_iff.mp hi
  obtain ⟨hx, hb, hown, hml, hrt, hf1, hf2, hlk, hts, hN, hK, hinj, hA⟩ := hok
  obtain ⟨hst, hini, hcd, hpl⟩ := hcf
  rw [rev_app]
  refine after_run (aa := (as.map (rn G.2.2)).toArray) (va_runS (As := as.map (rn G.2.2)) (rest := st.map (rn G.2.2)) (bytes := mi.2.1) (maxL := mi.2.2.1) (ret := mi.2.2.2) (n := as.length) (Ts := WS) (nL := si.2.2.1) (own := si.2.1) ⟨hx, hb, hml, hown, hts⟩ (hM l G q hq) ⟨callB_of _ hts (wsM_good hcd) rfl rfl rfl (hts _ hini) (hts _ hl) hpl ⟨Nat.le_trans hR.1 hf1, Nat.le_trans hR.2 hf2⟩, hts _ hst⟩ ⟨PcW_blind G as d, fun U hU hW => PcW_at hU hW hP hN hK hinj⟩ rfl (by simp) hl2.1 rfl ?_ hd ?_) hS hA (fun H1 locs1 hP1 hS1 => ?_)
  · rw [cat_sum]
    exact lv_room hsum
  · rw [hcs.1, hcs.2]
    exact ⟨Nat.zero_le _, Nat.zero_le _⟩
  · rw [wr_list]
    exact h q ⟨hx, hb, hown, hml, hrt, hf1, hf2, hlk, hts, hN, hK, hinj, hA⟩ i hi H1 locs1 ls hP1 hS1 hl2
theorem r_callSN {β : Type} {wr : β → Option Value} {mi : MI} {fr lc idx : Nat} {host : String} {as stk : List Value} {oc : Option (β × DD)} {k : β × DD → Option ι} (st : List Value) (hM : AM wr mi fr lc as d oc) (hcf : CFs mi as.length) (hl : (si.2.1, idx, mi.1, host) ∈ WN) (hR : fr + 1 ≤ si.2.2.2.2.1 ∧ 8 + (mi.2.2.1 + 11) + lc ≤ si.2.2.2.2.2) (hd : decode si.1 pc = .ok (.invokestatic idx, 3)) (hstk : as.reverse ++ st = stk) (hsum : (st.map fun v => v.category).sum ≤ 8) (hcs : cells = 0 ∧ slots = 0)
    (h : ∀ q : β × DD, AW E si cells slots Qf (k q) (pc + 3) lv ((wr q.1).toList ++ st) q.2) : AW E si cells slots Qf (oc.bind k) pc lv stk d := by
  obtain ⟨p, l, e, R, s, m, args, below, meth, c, A, G⟩ := E
  intro hok i hi H locs ls hP hS hl2
  subst hstk
  obtain ⟨q, hq, hi⟩ := Option.bind_eq_some_iff.mp hi
  obtain ⟨hx, hb, hown, hml, hrt, hf1, hf2, hlk, hts, hN, hK, hinj, hA⟩ := hok
  obtain ⟨hst, hini, hcd, hpl⟩ := hcf
  rw [rev_app]
  refine after_run (aa := (as.map (rn G.2.2)).toArray) (va_runSN (As := as.map (rn G.2.2)) (rest := st.map (rn G.2.2)) (bytes := mi.2.1) (maxL := mi.2.2.1) (ret := mi.2.2.2) (n := as.length) (Ts := WS) (nL := si.2.2.1) (own := si.2.1) (host := host) ⟨hx, hb, hml, hown, hts⟩ (hM l G q hq) ⟨va_cnB _ hts (wsM_good hcd) rfl rfl rfl (hN _ hl) (hts _ hini) hpl ⟨Nat.le_trans hR.1 hf1, Nat.le_trans hR.2 hf2⟩, hts _ hst, trivial⟩ ⟨PcW_blind G as d, fun U hU hW => PcW_at hU hW hP hN hK hinj⟩ rfl (by simp) hl2.1 rfl ?_ hd ?_) hS hA (fun H1 locs1 hP1 hS1 => ?_)
  · rw [cat_sum]
    exact lv_room hsum
  · rw [hcs.1, hcs.2]
    exact ⟨Nat.zero_le _, Nat.zero_le _⟩
  · rw [wr_list]
    exact h q ⟨hx, hb, hown, hml, hrt, hf1, hf2, hlk, hts, hN, hK, hinj, hA⟩ i hi H1 locs1 ls hP1 hS1 hl2
theorem r_callV {β : Type} {wr : β → Option Value} {mi : MI} {fr lc idx b cc : Nat} {T : u_T} {N : Nat} {as stk : List Value} {oc : Option (β × DD)} {k : β × DD → Option ι} (st : List Value) (hM : AM wr mi fr lc (.ref b :: as) d oc) (hk : kd b = cc + 4) (hc : vwCl[cc]? = some (mi.1.cls, T, N)) (hcf : CFv mi as.length) (hl : Cond.methodLink si.2.1 idx mi.1 ∈ WS) (hR : fr + 1 ≤ si.2.2.2.2.1 ∧ 8 + (mi.2.2.1 + 11) + lc ≤ si.2.2.2.2.2) (hd : decode si.1 pc = .ok (.invokevirtual idx, 3)) (hstk : as.reverse ++ .ref b :: st = stk) (hsum : (st.map fun v => v.category).sum ≤ 8) (hcs : cells = 0 ∧ slots = 0)
    (h : ∀ q : β × DD, AW E si cells slots Qf (k q) (pc + 3) lv ((wr q.1).toList ++ st) q.2) : AW E si cells slots Qf (oc.bind k) pc lv stk d := by
  obtain ⟨p, l, e, R, s, m, args, below, meth, c, A, G⟩ := E
  intro hok i hi H locs ls hP hS hl2
  subst hstk
  obtain ⟨q, hq, hi⟩ := Option.bind_eq_some_iff.mp hi
  obtain ⟨hx, hb, hown, hml, hrt, hf1, hf2, hlk, hts, hN, hK, hinj, hA⟩ := hok
  obtain ⟨hst, hsel, hini, hcd, hpl⟩ := hcf
  have hbl : b < NLb := kd_lt hk (by have : cc < vwCl.length := (List.getElem?_eq_some_iff.mp hc).1; have : vwCl.length = 11 := rfl; omega)
  rw [rev_app]
  refine after_run (aa := ((.ref b :: as).map (rn G.2.2)).toArray) (va_runV (As := as.map (rn G.2.2)) (b := G.2.2 b) (rest := st.map (rn G.2.2)) (bytes := mi.2.1) (maxL := mi.2.2.1) (ret := mi.2.2.2) (n := as.length) (Ts := WS) (nL := si.2.2.1) (own := si.2.1) (C := mi.1.cls) ⟨hx, hb, hml, hown, hts⟩ (hM l G q hq) ⟨callB_of _ hts (wsM_good hcd) rfl rfl rfl (hts _ hini) (hts _ hl) hpl ⟨Nat.le_trans hR.1 hf1, Nat.le_trans hR.2 hf2⟩, hts _ hst, hts _ hsel⟩ ⟨PcW_blind G _ d, va_recv hK hP (ci := cc) (q0 := b) hc (by rw [ws_at hbl, cel_obj hk]), fun U hU hW => PcW_at (as := .ref b :: as) hU hW hP hN hK hinj⟩ rfl (by simp) hl2.1 rfl ?_ hd ?_) hS hA (fun H1 locs1 hP1 hS1 => ?_)
  · rw [cat_sum]
    exact lv_room hsum
  · rw [hcs.1, hcs.2]
    exact ⟨Nat.zero_le _, Nat.zero_le _⟩
  · rw [wr_list]
    exact h q ⟨hx, hb, hown, hml, hrt, hf1, hf2, hlk, hts, hN, hK, hinj, hA⟩ i hi H1 locs1 ls hP1 hS1 hl2
theorem r_ireturn {x : Int32} (hd : decode si.1 pc = .ok (.ireturn, 1)) (hr : si.2.2.2.1 = some .int) : AW E si 0 0 (QM E wrI) (some (x, d)) pc lv [.int x] d := by
  obtain ⟨p, l, e, R, s, m, args, below, meth, c, A, G⟩ := E
  intro hok i hi H locs ls hP hS hl
  obtain ⟨hx, hb, hown, hml, hrt, hf1, hf2, hlk, hts, hN, hK, hinj, hA⟩ := hok
  cases hi
  exact W.iret (v := x) hx hb (hrt.trans hr) (fun t ht hW => ⟨rfl, by rw [ht]; exact hP, hS.F ht⟩) hS.2.2 hd hlk
theorem r_zreturn {x : Int32} (hd : decode si.1 pc = .ok (.ireturn, 1)) (hr : si.2.2.2.1 = some .boolean) (hz : narrow .boolean (.int x) = .int x) : AW E si 0 0 (QM E wrI) (some (x, d)) pc lv [.int x] d := by
  obtain ⟨p, l, e, R, s, m, args, below, meth, c, A, G⟩ := E
  intro hok i hi H locs ls hP hS hl
  obtain ⟨hx, hb, hown, hml, hrt, hf1, hf2, hlk, hts, hN, hK, hinj, hA⟩ := hok
  cases hi
  exact W.zret (v := x) hx hb (hrt.trans hr) hz (fun t ht hW => ⟨rfl, by rw [ht]; exact hP, hS.F ht⟩) hS.2.2 hd hlk
theorem r_breturn {x : Int32} (hd : decode si.1 pc = .ok (.ireturn, 1)) (hr : si.2.2.2.1 = some .boolean) : AW E si 0 0 (QM E wrI) (if x = 0 ∨ x = 1 then some (x, d) else none) pc lv [.int x] d := by
  refine r_guard fun h => ?_
  rcases h with rfl | rfl
  · exact r_zreturn hd hr rfl
  · exact r_zreturn hd hr rfl
theorem r_lreturn {x : Int64} (hd : decode si.1 pc = .ok (.lreturn, 1)) (hr : si.2.2.2.1 = some .long) : AW E si 0 0 (QM E wrL) (some (x, d)) pc lv [.long x] d := by
  obtain ⟨p, l, e, R, s, m, args, below, meth, c, A, G⟩ := E
  intro hok i hi H locs ls hP hS hl
  obtain ⟨hx, hb, hown, hml, hrt, hf1, hf2, hlk, hts, hN, hK, hinj, hA⟩ := hok
  cases hi
  exact W.lret (v := x) hx hb (hrt.trans hr) (fun t ht hW => ⟨rfl, by rw [ht]; exact hP, hS.F ht⟩) hS.2.2 hd hlk
theorem r_return (hd : decode si.1 pc = .ok (.return_, 1)) (hr : si.2.2.2.1 = none) : AW E si 0 0 (QM E wrU) (some ((), d)) pc lv [] d := by
  obtain ⟨p, l, e, R, s, m, args, below, meth, c, A, G⟩ := E
  intro hok i hi H locs ls hP hS hl
  obtain ⟨hx, hb, hown, hml, hrt, hf1, hf2, hlk, hts, hN, hK, hinj, hA⟩ := hok
  cases hi
  exact W.vret hx hb (hrt.trans hr) (fun t ht hW => ⟨rfl, by rw [ht]; exact hP, hS.F ht⟩) hS.2.2 hd hlk
theorem r_areturn {x : Nat} {n : String} (hd : decode si.1 pc = .ok (.areturn, 1)) (hr : si.2.2.2.1 = some (.object n)) : AW E si 0 0 (QM E wrR) (some (some x, d)) pc lv [.ref x] d := by
  obtain ⟨p, l, e, R, s, m, args, below, meth, c, A, G⟩ := E
  intro hok i hi H locs ls hP hS hl
  obtain ⟨hx, hb, hown, hml, hrt, hf1, hf2, hlk, hts, hN, hK, hinj, hA⟩ := hok
  cases hi
  exact W.aret (v := .ref (G.2.2 x)) hx hb (hrt.trans hr) (Or.inl ⟨n, rfl⟩) (Or.inr ⟨_, rfl⟩) (fun t ht hW => ⟨rfl, by rw [ht]; exact hP, hS.F ht⟩) hS.2.2 hd hlk
theorem r_areturnN {n : String} (hd : decode si.1 pc = .ok (.areturn, 1)) (hr : si.2.2.2.1 = some (.object n)) : AW E si 0 0 (QM E wrR) (some (none, d)) pc lv [.null] d := by
  obtain ⟨p, l, e, R, s, m, args, below, meth, c, A, G⟩ := E
  intro hok i hi H locs ls hP hS hl
  obtain ⟨hx, hb, hown, hml, hrt, hf1, hf2, hlk, hts, hN, hK, hinj, hA⟩ := hok
  cases hi
  exact W.aret (v := .null) hx hb (hrt.trans hr) (Or.inl ⟨n, rfl⟩) (Or.inl rfl) (fun t ht hW => ⟨rfl, by rw [ht]; exact hP, hS.F ht⟩) hS.2.2 hd hlk
theorem r_tsw {o : Option ι} {st : List Value} {dflt lo hi : Int} {offs : Array Int} {len tgt : Nat} {x k : Int32} {off : Int} (hd : decode si.1 pc = .ok (.tableswitch dflt lo hi offs, len)) (hx : x = k) (h1 : ¬ k.toInt < lo) (h2 : ¬ hi < k.toInt) (ho : offs[(k.toInt - lo).toNat]? = some off) (ht : (pc : Int) + off = (tgt : Int)) (h : AW E si cells slots Qf o tgt lv st d) : AW E si cells slots Qf o pc lv (.int x :: st) d := by
  obtain ⟨p, l, e, R, s, m, args, below, meth, c, A, G⟩ := E
  intro hok i hi H locs ls hP hS hl
  subst hx
  exact lv_tableIn hok.1 hok.2.1 hd h1 h2 ho ht (h hok i hi H locs ls hP hS hl)
theorem r_tswO {o : Option ι} {st : List Value} {dflt lo hi : Int} {offs : Array Int} {len tgt : Nat} {x : Int32} (hd : decode si.1 pc = .ok (.tableswitch dflt lo hi offs, len)) (hx : x.toInt < lo ∨ hi < x.toInt) (ht : (pc : Int) + dflt = (tgt : Int)) (h : AW E si cells slots Qf o tgt lv st d) : AW E si cells slots Qf o pc lv (.int x :: st) d := by
  obtain ⟨p, l, e, R, s, m, args, below, meth, c, A, G⟩ := E
  intro hok i hi H locs ls hP hS hl
  exact lv_tableOut hok.1 hok.2.1 hd hx ht (h hok i hi H locs ls hP hS hl)
theorem r_mref {o1 : Option ι} {o2 : Nat → Option ι} {cc : Nat} {x : Option Nat} {st : List Value} (h1 : AW E si cells slots Qf o1 pc lv (.null :: st) d) (h2 : ∀ a, kd a = cc → AW E si cells slots Qf (o2 a) pc lv (.ref a :: st) d) : AW E si cells slots Qf (match x with | none => o1 | some a => if kd a = cc then o2 a else none) pc lv ((wrR x).toList ++ st) d := by
  cases x with
  | none => exact h1
  | some a => exact r_guard fun hk => h2 a hk
end AC
theorem lv_args_map (α : Nat → Nat) : ∀ (vs : List Value) (i : Nat), lv_args i (vs.map (rn α)) = (lv_args i vs).map (rnL α)
  | [], _ => rfl
  | v :: vs, i => by
    simp only [List.map_cons, lv_args, rn_cat, lv_args_map α vs]
    rfl
theorem lg_sl_len (α : Nat → Nat) : ∀ (vs : List Value), (lg_sl (vs.map (rn α))).length = (lg_sl vs).length
  | [] => rfl
  | v :: vs => by
    have ih := lg_sl_len α vs
    unfold lg_sl at ih ⊢
    simp only [List.map_cons, List.flatMap_cons, List.length_append, rn_cat]
    rw [ih]
    congr 1
    split <;> rfl
theorem AM_intro {β : Type} {wr : β → Option Value} {mi : MI} {fr lc : Nat} {as : List Value} {d : DD} {o : Option (β × DD)} {si : SI} {lv : List (Nat × Value)} (hsi : si = (mi.2.1, mi.1.cls, mi.2.2.1, mi.2.2.2, fr, lc)) (hpl : plainName mi.1.cls = true) (hlv : lv_args 0 as = lv) (hlen : (lg_sl as).length ≤ mi.2.2.1) (body : ∀ E : XE, AW E si 0 0 (QM E wr) o 0 lv [] d) : AM wr mi fr lc as d o := by
  intro l G i hi
  subst hsi
  subst hlv
  refine Met.ofW (cc := mi.2.1) (maxL := mi.2.2.1) (ret := mi.2.2.2) hpl rfl ?_
  intro p e s m args below meth c s₁ B hml hv
  obtain ⟨rfl, hP, hK, hN, hinj⟩ := hv
  have hts := atoms_spec (ws := wsM mi) B.pre
  have hown : s.vm.findClass mi.1.cls = some m.cls := findClass_of_methodNamed B.named
  have hlk := B.notSynchronized
  rw [lg_entry_eq]
  have hl := lv_entry (as.map (rn G.2.2)) (n := mi.2.2.1) (by rw [lg_sl_len]; exact hlen)
  rw [lv_args_map] at hl
  exact body (p, l, e, (headSpec (wsM mi) { frames := fr, cells := 0, slots := 0, locals := lc }).room, s, m, _, below, meth, c, AG G, G) ⟨B.exec, B.bytes, hown, hml, B.returns, Nat.le_refl _, Nat.le_refl _, hlk, fun w hw => hts w (List.mem_cons_of_mem _ hw), hN, hK, hinj, fun o ho => ⟨o, ho, rfl⟩⟩ i hi s.heap [] _ hP va_S.rf hl
