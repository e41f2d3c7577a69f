/-! THE CLAIM OUT OF ONE WALK OF THE LAW'S BODY. Your part is whole_start (and what it stands on); all else here is the same for every law, but numbers. -/
def R_law : String := "WindowTurnsLaw"
def lw_P (b : Addr) (xs : List Int32) (args : Array Value) (s : State) : Prop := args = #[.ref b] ∧ s.IntsAt b xs ∧ xs.length ≤ 3072 ∧ (Jvm.Cond.and given_1 narrow_1).before args s = true
def lw_Q (_ : Array Value) (s : State) (o : Outcome) (t : State) : Prop := o = .returned (some (.int 1)) ∧ Framed s o t [] 1141 19887
def lw_Z (below : List Frame) (a : Array Value) (s : State) : State → Prop := fun t => ∃ o, t.status = .running ∧ Ended t below o ∧ lw_Q a s o t
/-- the law's own end, with 1 on the stack, nothing written that was there before, its room as the claim has it -/
theorem lw_ret {p : Program} {l : Launch} {e : Env} {s : State} {m : MethodId} {below : List Frame} {meth : Method} {c : Code} {b : Nat} (hx : p.tables.exec = Jvm.exec) (hb : c.code = code) (hr : meth.sig.returnType = ret) (hlocks : meth.locks = false) {pc : Nat} {H : Heap} {ls : Array Slot} (hdg : decode code pc = .ok (.ireturn, 1)) : W p l e room_1 s m #[Value.ref b] below meth c H [] 1141 19887 (lw_Z below #[Value.ref b] s) (F0 m pc ls [.int 1]) := by
  intro T hT X
  obtain ⟨fs, hret, hrun, hended, hW, hframe⟩ := X.leave (v := some (.int 1)) (hlocks := hlocks) (fun h => by rw [hr] at h; cases h)
  have hmeth' : T.vm.method? m = some meth := X.method'
  refine ⟨T.setFrames fs, ?_, .returned (some (.int 1)), hrun, hended, rfl, ⟨_, rfl⟩, hW, hframe⟩
  jvm_step X.here [X.here.top, hx, hb, hdg, hmeth', hr, ret, narrow_b1]
  (try refine ⟨rfl, ?_⟩); (try refine ⟨rfl, ?_⟩)
  first | (intro acts; rw [hret _ acts rfl rfl rfl]) | rw [hret _ _ rfl rfl rfl]
  exact Steps.refl _
/-- what holds at the law's entry: the machine, the code, the tables' words (any of lw_tbl by 'hts w (by decide +kernel)'), the script of L ints xs at the cell b, what the Statement gives of the start (any of its parts by flat_of_before) -/
def lw_At (p : Program) (s : State) (m : MethodId) (meth : Method) (c : Code) (b L : Nat) (xs : Nat → Int32) : Prop :=
  p.tables.exec = Jvm.exec ∧ c.code = code ∧ meth.sig.returnType = ret ∧ c.maxLocals = 8 ∧ s.vm.findClass R_law = some m.cls ∧ (∀ w ∈ lw_tbl, w.before #[Value.ref b] s = true) ∧ va_X b L xs s s.heap ∧ b < s.heap.size ∧ meth.locks = false ∧ (Jvm.Cond.and given_1 narrow_1).before #[Value.ref b] s = true
-- THE LAW: its script has the label 111 (no cell of the world); calls while some room is used
def LF (E : XE) (L : Nat) (xs : Nat → Int32) : Prop := match E with
  | (_, l, _, R, s, _, _, _, _, _, A, G) => R = room_1 ∧ l.stackTraces = false ∧ ZU A s s.heap ∧ XW s ∧ va_X (G.2.2 111) L xs s s.heap ∧ ¬ A (G.2.2 111) ∧ G.2.2 111 < s.heap.size
def LQ (E : XE) (_ : Unit) : State → Prop := match E with
  | (_, _, _, _, s, _, args, below, _, _, _, _) => lw_Z below args s
section AL
variable {E : XE} {si : SI} {cells slots : Nat} {ι : Type} {Qf : ι → State → Prop} {o : Option ι} {pc : Nat} {lv : List (Nat × Value)} {st : List Value} {d : DD} {L : Nat} {xs : Nat → Int32}
theorem r_widen {k n : Nat} (h1 : cells ≤ k) (h2 : slots ≤ n) (h : AW E si k n Qf o pc lv st d) : AW E si cells slots Qf o pc lv st d := by
  obtain ⟨p, l, e, R, s, m, args, below, meth, c, A, G⟩ := E
  intro hok i hi H locs ls hP hS hl
  exact W.widen h1 h2 (h hok i hi H locs ls hP hS hl)
theorem r_slen (hF : LF E L xs) (hd : decode si.1 pc = .ok (.arraylength, 1)) (h : AW E si cells slots Qf o (pc + 1) lv (.int (Int32.ofNat L) :: st) d) : AW E si cells slots Qf o pc lv (.ref 111 :: st) d := by
  obtain ⟨p, l, e, R, s, m, args, below, meth, c, A, G⟩ := E
  intro hok i hi H locs ls hP hS hl
  obtain ⟨-, -, -, -, hX, hbA, hbl⟩ := hF
  exact va_slen hok.1 hok.2.1 hX hbl hbA hS hd (h hok i hi H locs ls hP hS hl)
theorem r_sld {j : Int32} (hF : LF E L xs) (hd : decode si.1 pc = .ok (.iaload, 1)) (h : AW E si cells slots Qf o (pc + 1) lv (.int (xs j.toNatClampNeg) :: st) d) : AW E si cells slots Qf (if ixb j L then o else none) pc lv (.int j :: .ref 111 :: st) d := by
  refine r_guard fun hj => ?_
  obtain ⟨p, l, e, R, s, m, args, below, meth, c, A, G⟩ := E
  intro hok i hi H locs ls hP hS hl
  obtain ⟨-, -, -, -, hX, hbA, hbl⟩ := hF
  exact va_sld hok.1 hok.2.1 hX hbl hbA hS (ixb_in hj) hd (h hok i hi H locs ls hP hS hl)
theorem r_callLV {β : Type} {wr : β → Option Value} {mi : MI} {fr lc idx b cc : Nat} {T : u_T} {N : Nat} {as stk : List Value} {oc : Option (β × DD)} {k : β × DD → Option ι} (st : List Value) (hF : LF E L xs) (hcs : cells ≤ 1141 ∧ slots ≤ 19887) (hM : AM wr mi fr lc (.ref b :: as) d oc) (hk : kd b = cc + 4) (hc : vwCl[cc]? = some (mi.1.cls, T, N)) (hcf : CFv mi as.length) (hl : Cond.methodLink si.2.1 idx mi.1 ∈ WS) (hR : fr + 1 ≤ si.2.2.2.2.1 ∧ 8 + (mi.2.2.1 + 11) + lc ≤ si.2.2.2.2.2) (hd : decode si.1 pc = .ok (.invokevirtual idx, 3)) (hstk : as.reverse ++ .ref b :: st = stk) (hsum : (st.map fun v => v.category).sum ≤ 8)
    (h : ∀ q : β × DD, AW E si cells slots Qf (k q) (pc + 3) lv ((wr q.1).toList ++ st) q.2) : AW E si cells slots Qf (oc.bind k) pc lv stk d := by
  obtain ⟨p, l, e, R, s, m, args, below, meth, c, A, G⟩ := E
  intro hok i hi H locs ls hP hS hl2
  subst hstk
  obtain ⟨q, hq, hi⟩ := Option.bind_eq_some_iff.mp hi
  obtain ⟨hx, hb, hown, hml, hrt, hf1, hf2, hlk, hts, hN, hK, hinj, hA⟩ := hok
  obtain ⟨hst, hsel, hini, hcd, hpl⟩ := hcf
  obtain ⟨hRm, -⟩ := hF
  have hbl : b < NLb := kd_lt hk (by have : cc < vwCl.length := (List.getElem?_eq_some_iff.mp hc).1; have : vwCl.length = 11 := rfl; omega)
  rw [rev_app]
  refine after_run (aa := ((.ref b :: as).map (rn G.2.2)).toArray) (va_runV (As := as.map (rn G.2.2)) (b := G.2.2 b) (rest := st.map (rn G.2.2)) (bytes := mi.2.1) (maxL := mi.2.2.1) (ret := mi.2.2.2) (n := as.length) (Ts := WS) (nL := si.2.2.1) (own := si.2.1) (C := mi.1.cls) ⟨hx, hb, hml, hown, hts⟩ (hM l G q hq) ⟨callB_of _ hts (wsM_good hcd) rfl rfl rfl (hts _ hini) (hts _ hl) hpl ⟨Nat.le_trans hR.1 hf1, Nat.le_trans hR.2 hf2⟩, hts _ hst, hts _ hsel⟩ ⟨PcW_blind G _ d, va_recv hK hP (ci := cc) (q0 := b) hc (by rw [ws_at hbl, cel_obj hk]), fun U hU hW => PcW_at (as := .ref b :: as) hU hW hP hN hK hinj⟩ rfl (by simp) hl2.1 rfl ?_ hd ?_) hS hA (fun H1 locs1 hP1 hS1 => ?_)
  · rw [cat_sum]
    exact lv_room hsum
  · rw [hRm]
    exact hcs
  · rw [wr_list]
    exact h q ⟨hx, hb, hown, hml, hrt, hf1, hf2, hlk, hts, hN, hK, hinj, hA⟩ i hi H1 locs1 ls hP1 hS1 hl2
theorem r_callLVI {mi : MI} {fr lc idx b cc : Nat} {T : u_T} {N : Nat} {as stk : List Value} {oc : Option (Int32 × DD)} {k : Int32 × DD → Option ι} (st : List Value) (hF : LF E L xs) (hcs : cells ≤ 1141 ∧ slots ≤ 19887) (hM : AM wrI mi fr lc (.ref b :: as) d oc) (hk : kd b = cc + 4) (hc : vwCl[cc]? = some (mi.1.cls, T, N)) (hcf : CFv mi as.length) (hl : Cond.methodLink si.2.1 idx mi.1 ∈ WS) (hR : fr + 1 ≤ si.2.2.2.2.1 ∧ 8 + (mi.2.2.1 + 11) + lc ≤ si.2.2.2.2.2) (hd : decode si.1 pc = .ok (.invokevirtual idx, 3)) (hstk : as.reverse ++ .ref b :: st = stk) (hsum : (st.map fun v => v.category).sum ≤ 8)
    (h : ∀ q : Int32 × DD, AW E si cells slots Qf (k q) (pc + 3) lv (.int q.1 :: st) q.2) : AW E si cells slots Qf (oc.bind k) pc lv stk d := r_callLV st hF hcs hM hk hc hcf hl hR hd hstk hsum h
theorem r_callLVL {mi : MI} {fr lc idx b cc : Nat} {T : u_T} {N : Nat} {as stk : List Value} {oc : Option (Int64 × DD)} {k : Int64 × DD → Option ι} (st : List Value) (hF : LF E L xs) (hcs : cells ≤ 1141 ∧ slots ≤ 19887) (hM : AM wrL mi fr lc (.ref b :: as) d oc) (hk : kd b = cc + 4) (hc : vwCl[cc]? = some (mi.1.cls, T, N)) (hcf : CFv mi as.length) (hl : Cond.methodLink si.2.1 idx mi.1 ∈ WS) (hR : fr + 1 ≤ si.2.2.2.2.1 ∧ 8 + (mi.2.2.1 + 11) + lc ≤ si.2.2.2.2.2) (hd : decode si.1 pc = .ok (.invokevirtual idx, 3)) (hstk : as.reverse ++ .ref b :: st = stk) (hsum : (st.map fun v => v.category).sum ≤ 8)
    (h : ∀ q : Int64 × DD, AW E si cells slots Qf (k q) (pc + 3) lv (.long q.1 :: st) q.2) : AW E si cells slots Qf (oc.bind k) pc lv stk d := r_callLV st hF hcs hM hk hc hcf hl hR hd hstk hsum h
theorem wsH_good {mi : MI} {hh : List (Nat × Nat × Nat × Nat)} (h : Cond.codeWith mi.1 mi.2.1 mi.2.2.1 mi.2.2.2 hh ∈ WS) : GoodIn WS (wsH mi hh) := by
  intro w hw
  rcases List.mem_cons.mp hw with rfl | hw
  · exact WS_good _ h
  · exact WS_good _ hw
theorem after_run1 {p : Program} {l : Launch} {e : Env} {R : Room} {s : State} {m : MethodId} {args : Array Value} {below : List Frame} {meth : Method} {c : Code} {A : Nat → Prop} {G : XG} {cells slots : Nat} {Q : State → Prop} {β : Type} {wr : β → Option Value} {i : β × DD} {pc : Nat} {ls : Array Slot} {st0 rest : List Value} {aa : Array Value} {H : Heap} {locs : List Loc}
    (hr : va_Run p l e R s m args below meth c H locs cells slots 1 6 (F0 m pc ls st0) rest (QcW G (AG G) wr i aa) (AG G)) (hS : va_S A s.heap H locs) (hA : ∀ o, o < NLb → A (G.2.2 o))
    (kk : ∀ (H1 : Heap) (locs1 : List Loc), va_P G.1 vwCl (wsW G i.2) H1 → va_S A s.heap H1 locs1 → W p l e R s m args below meth c H1 locs1 (cells + 1) (slots + 6) Q (F0 m (pc + 3) ls (((wr i.1).map (rn G.2.2)).toList ++ rest))) : W p l e R s m args below meth c H locs cells slots Q (F0 m pc ls st0) := by
  have hAG : ∀ q, AG G q → A q := fun q ⟨k, h1, h2⟩ => h2 ▸ hA k h1
  intro T hT X
  obtain ⟨v, st₀, t, T', L, h0, X', hL, e1, e2, ⟨hv, hp, hz, hk⟩, st⟩ := hr T hT X
  cases hv
  obtain ⟨k1, k2, k3⟩ := vx_keep h0 e1 hS (fun q _ h => hAG q h) hAG hL ⟨hz, hk⟩
  obtain ⟨t2, a1, b1⟩ := kk T'.heap (locs ++ L) (by rw [e1]; exact hp) k3 T' rfl X'
  exact ⟨t2, st t2 a1, b1⟩
theorem r_callH {mi : MI} {hh : List (Nat × Nat × Nat × Nat)} {fr lc idx : Nat} {as stk : List Value} {oc : Option (Int32 × DD)} {k : Int32 × DD → Option ι} (st : List Value) (hF : LF E L xs) (hcs : cells + 1 ≤ 1141 ∧ slots + 6 ≤ 19887) (hM : AH wrI mi hh fr lc as d oc) (hcd : Cond.codeWith mi.1 mi.2.1 mi.2.2.1 mi.2.2.2 hh ∈ WS) (hst : Cond.static mi.1 ∈ WS) (hini : Cond.initialized mi.1.cls ∈ WS) (hpl : plainF mi as.length) (hl : Cond.methodLink si.2.1 idx mi.1 ∈ WS) (hR : fr + 1 ≤ si.2.2.2.2.1 ∧ 8 + (mi.2.2.1 + 11) + lc ≤ si.2.2.2.2.2) (hd : decode si.1 pc = .ok (.invokestatic idx, 3)) (hstk : as.reverse ++ st = stk) (hsum : (st.map fun v => v.category).sum ≤ 8)
    (h : ∀ q : Int32 × DD, AW E si (cells + 1) (slots + 6) Qf (k q) (pc + 3) lv (.int q.1 :: st) q.2) : AW E si cells slots Qf (oc.bind k) pc lv stk d := by
  obtain ⟨p, l, e, R, s, m, args, below, meth, c, A, G⟩ := E
  intro hok i hi H locs ls hP hS hl2
  subst hstk
  obtain ⟨q, hq, hi⟩ := Option.bind_eq_some_iff.mp hi
  obtain ⟨hx, hb, hown, hml, hrt, hf1, hf2, hlk, hts, hN, hK, hinj, hA⟩ := hok
  obtain ⟨hRm, hl0, hZ, hXw, -⟩ := hF
  have hAG : ∀ q, AG G q → A q := fun q ⟨k, h1, h2⟩ => h2 ▸ hA k h1
  have hcw : vx_CSW R s args si.2.1 idx mi.1 mi.2.1 mi.2.2.1 mi.2.2.2 hh (wsH mi hh) { frames := fr, cells := 1, slots := 6, locals := lc } 1 6 as.length := by
    refine ⟨⟨rfl, rfl, Nat.le_trans hR.1 hf1, Nat.le_trans hR.2 hf2, pay_in hts (wsH_good hcd), List.mem_cons_self⟩, hts _ hcd, hts _ hini, ⟨hpl.1, hpl.2.1⟩, fun sig h => ?_, hts _ hl, hts _ hst⟩
    have h2 := hpl.2.2
    rw [h] at h2
    exact (Option.some.inj h2).symm
  rw [rev_app]
  refine after_run1 (aa := (as.map (rn G.2.2)).toArray) (vx_runSW (As := as.map (rn G.2.2)) (rest := st.map (rn G.2.2)) (Ts := WS) (nL := si.2.2.1) ⟨hx, hb, hml, hown, hts⟩ (hM l hl0 G q hq) hcw ⟨PcX_blind G as d, fun U hU hW => ⟨PcW_at hU hW hP hN hK hinj, ?_⟩⟩ rfl (by simp) hl2.1 rfl ?_ hd ?_) hS hA (fun H1 locs1 hP1 hS1 => ?_)
  · rw [hU]
    exact ⟨⟨((vx_Zq.moved hW.alike hZ.1).kept hS.2.1).narrow hAG, ((vx_Zq.moved hW.alike hZ.2).kept hS.2.1).narrow hAG⟩, XW_warm hW hXw⟩
  · rw [cat_sum]
    exact lv_room hsum
  · rw [hRm]
    exact hcs
  · rw [wr_list]
    exact h q ⟨hx, hb, hown, hml, hrt, hf1, hf2, hlk, hts, hN, hK, hinj, hA⟩ i hi H1 locs1 ls hP1 hS1 hl2
end AL
def sz_heap (E : XE) : Nat := match E with
  | (_, _, _, _, s, _, _, _, _, _, _, _) => s.heap.size
def A_of (E : XE) : Nat → Prop := match E with
  | (_, _, _, _, _, _, _, _, _, _, A, _) => A
def arg1 (E : XE) : Prop := match E with
  | (_, _, _, _, _, _, args, _, _, _, A, G) => args = #[Value.ref (G.2.2 111)]
abbrev si_law : SI := (cL_law, RL, 8, ret, 10, 368)
theorem r_lawret {E : XE} {cells slots : Nat} {pc : Nat} {lv : List (Nat × Value)} {d : DD} {L : Nat} {xs : Nat → Int32} (hF : LF E L xs) (ha : arg1 E) (hcs : cells ≤ 1141 ∧ slots ≤ 19887) (hA : ∀ q, A_of E q → sz_heap E ≤ q) (hd : decode cL_law pc = .ok (.ireturn, 1)) : AW E si_law cells slots (LQ E) (some ()) pc lv [.int 1] d := by
  obtain ⟨p, l, e, R, s, m, args, below, meth, c, A, G⟩ := E
  intro hok i hi H locs ls hP hS hl
  obtain ⟨hx, hb, hown, hml, hrt, hf1, hf2, hlk, hts, hN, hK, hinj, hA2⟩ := hok
  obtain ⟨hRm, -⟩ := hF
  have ha : args = #[Value.ref (G.2.2 111)] := ha
  subst hRm
  subst ha
  refine va_forget (fun q hq => hA _ (hS.2.2 q hq)) ?_
  refine W.widen (k := 1141) (n := 19887) hcs.1 hcs.2 ?_
  exact lw_ret hx hb hrt hlk hd
