-- CONSTRUCTORS: worlds that grow; the cell at the head is the one under construction, cells with their addresses
def EG (E : XE) : XG := match E with
  | (_, _, _, _, _, _, _, _, _, _, _, G) => G
def OKC (E : XE) (si : SI) : Prop := match E with
  | (p, _, _, R, s, m, args, _, meth, c, A, G) => p.tables.exec = Jvm.exec ∧ c.code = si.1 ∧ s.vm.findClass si.2.1 = some m.cls ∧ c.maxLocals = si.2.2.1 ∧ meth.sig.returnType = si.2.2.2.1 ∧
    si.2.2.2.2.1 ≤ R.frames ∧ si.2.2.2.2.2 ≤ R.locals ∧ meth.locks = false ∧ (∀ w ∈ WS, w.before args s = true) ∧ (∀ q ∈ WN, va_Nw (NwL q) s) ∧ va_K G.1 vwCl (tysT G) s ∧ ∀ q, s.heap.size ≤ q → A q
def isInit (E : XE) : Prop := match E with
  | (_, _, _, _, _, _, _, _, meth, _, _, _) => meth.name = "<init>"
def RC (E : XE) (c s : Nat) : Prop := match E with
  | (_, _, _, R, _, _, _, _, _, _, _, _) => c ≤ R.cells ∧ s ≤ R.slots
def CW (E : XE) (si : SI) (cells slots : Nat) (Qf : State → Prop) (pc : Nat) (lv : List (Nat × Value)) (st : List Value) (ws : va_W) : Prop := match E with
  | (p, l, e, R, s, m, args, below, meth, c, A, G) => OKC (p, l, e, R, s, m, args, below, meth, c, A, G) si → ∀ (H : Heap) (locs : List Loc) (ls : Array Slot), va_P G.1 vwCl ws H → va_D A ws → va_S A s.heap H locs → lv_has ls si.2.2.1 lv →
    W p l e R s m args below meth c H locs cells slots Qf (F0 m pc ls st)
theorem wjoin {A : Nat → Prop} {D : va_G} {cl : List vw_C} {ws0 w1 : va_W} {x : Nat × va_E} {H H1 : Heap} (hP : va_P D cl (ws0 ++ [x]) H) (hD : va_D A (ws0 ++ [x])) (hk : ∀ q : Nat, q < H.size → ¬ va_A [x] H.size q → H1[q]? = H[q]?) (hP1 : va_P D cl w1 H1) (hD1 : va_D (va_A [x] H.size) w1) (hup : ∀ q, H.size ≤ q → A q) : va_P D cl (ws0 ++ w1) H1 ∧ va_D A (ws0 ++ w1) := by
  have hx : (ws0 ++ [x])[ws0.length]? = some x := by simp
  have h0 : ∀ (k : Nat) (q : Nat × va_E), ws0[k]? = some q → (ws0 ++ [x])[k]? = some q := by
    intro k q h
    rw [List.getElem?_append_left (List.getElem?_eq_some_iff.mp h).1]
    exact h
  have ap : ∀ (k : Nat) (q : Nat × va_E), ws0[k]? = some q → q.1 < H.size ∧ ¬ va_A [x] H.size q.1 := by
    intro k q h
    have hl := (hP k q (h0 k q h)).lt
    refine ⟨hl, fun z => ?_⟩
    rcases z with ⟨k2, e, z⟩ | z
    · have hk2 : k2 = 0 := by
        have := (List.getElem?_eq_some_iff.mp z).1
        simp at this
        exact this
      subst hk2
      have e1 : x = (q.1, e) := Option.some.inj z
      have := hD.1 k ws0.length q x (h0 k q h) hx (by rw [e1])
      have := (List.getElem?_eq_some_iff.mp h).1
      omega
    · omega
  have inA : ∀ q, va_A [x] H.size q → A q := by
    intro q z
    rcases z with ⟨k2, e, z⟩ | z
    · have hk2 : k2 = 0 := by
        have := (List.getElem?_eq_some_iff.mp z).1
        simp at this
        exact this
      subst hk2
      have e1 : x = (q, e) := Option.some.inj z
      have := hD.2 _ x hx
      rw [e1] at this
      exact this
    · exact hup q z
  refine ⟨va_P.app (fun k q h => ?_) hP1, va_D.app ⟨fun i j p q hp hq e => hD.1 i j p q (h0 i p hp) (h0 j q hq) e, fun k q h => hD.2 k q (h0 k q h)⟩ (hD1.weaken (fun k q _ h => inA q.1 h)) (fun i j a b ha hb hab => ?_)⟩
  · obtain ⟨g1, g2⟩ := ap k q h
    exact (hP k q (h0 k q h)).kept (hk q.1 g1 g2)
  · exact (ap i a ha).2 (by rw [hab]; exact hD1.2 j b hb)
def AC (mi : MI) (fr lc mc ms ci : Nat) (fs0 as : List Value) (Wp : XG → Nat → va_W → Prop) : Prop :=
  ∀ (l : Launch) (G : XG) (q sz : Nat), Met l mi.1 (wsM mi) { frames := fr, cells := mc, slots := ms, locals := lc }
    (fun a U => a = (Value.ref q :: as).toArray ∧ U.heap.size = sz ∧ va_P G.1 vwCl [(q, .inr (ci, fs0))] U.heap ∧ va_K G.1 vwCl (tysT G) U ∧ ∀ w ∈ WN, va_Nw (NwL w) U)
    (fun _ st oc t => oc = .returned none ∧ (∃ w1, Wp G q w1 ∧ va_P G.1 vwCl w1 t.heap ∧ va_D (va_A [(q, .inr (ci, fs0))] sz) w1) ∧ va_F (va_A [(q, .inr (ci, fs0))] sz) st t) mc ms (va_A [(q, .inr (ci, fs0))] sz)
def QC (E : XE) (Wp : va_W → Prop) (mc ms : Nat) : State → Prop := match E with
  | (_, _, _, _, s, _, args, below, _, _, A, G) => MQ below (fun _ st oc t => oc = .returned none ∧ (∃ w1, Wp w1 ∧ va_P G.1 vwCl w1 t.heap ∧ va_D A w1) ∧ va_F A st t) args s mc ms A
theorem AC_intro {mi : MI} {fr lc mc ms ci : Nat} {fs0 as : List Value} {Wp : XG → Nat → va_W → Prop} {si : SI} (hsi : si = (mi.2.1, mi.1.cls, mi.2.2.1, mi.2.2.2, fr, lc)) (hpl : plainName mi.1.cls = true) (hnm : mi.1.name = "<init>") (hlen : (lg_sl (.ref 0 :: as)).length ≤ mi.2.2.1)
    (body : ∀ (E : XE) (q : Nat), isInit E → RC E mc ms → CW E si 0 0 (QC E (Wp (EG E) q) mc ms) 0 (lv_args 0 (.ref q :: as)) [] [(q, .inr (ci, fs0))]) : AC mi fr lc mc ms ci fs0 as Wp := by
  intro l G q sz
  subst hsi
  refine Met.ofW (cc := mi.2.1) (maxL := mi.2.2.1) (ret := mi.2.2.2) hpl rfl ?_
  intro p e s m args below meth c s₁ B hml hv
  obtain ⟨rfl, rfl, hP, hK, hN⟩ := hv
  have hts := atoms_spec (ws := wsM mi) B.pre
  have hown : s.vm.findClass mi.1.cls = some m.cls := findClass_of_methodNamed B.named
  have hlk := B.notSynchronized
  have hin : meth.name = "<init>" := ((name_of_methodNamed B.named B.method).1).trans hnm
  rw [lg_entry_eq]
  have hl := lv_entry (.ref q :: as) (n := mi.2.2.1) hlen
  have hD : va_D (va_A [(q, .inr (ci, fs0))] s.heap.size) [(q, .inr (ci, fs0))] := by
    have h0 : va_D (fun _ => True) [(q, .inr (ci, fs0))] := by
      refine ⟨fun i j a b ha hb _ => ?_, fun _ _ _ => trivial⟩
      have h1 := (List.getElem?_eq_some_iff.mp ha).1
      have h2 := (List.getElem?_eq_some_iff.mp hb).1
      simp at h1 h2
      omega
    exact h0.self
  exact body (p, l, e, (headSpec (wsM mi) { frames := fr, cells := mc, slots := ms, locals := lc }).room, s, m, _, below, meth, c, va_A [(q, .inr (ci, fs0))] s.heap.size, G) q hin ⟨Nat.le_refl _, Nat.le_refl _⟩ ⟨B.exec, B.bytes, hown, hml, B.returns, Nat.le_refl _, Nat.le_refl _, hlk, fun w hw => hts w (List.mem_cons_of_mem _ hw), hN, hK, fun q h => Or.inr h⟩ s.heap [] _ hP hD va_S.rf hl
section CWS
variable {E : XE} {si : SI} {cells slots : Nat} {Qf : State → Prop} {pc : Nat} {lv lv' : List (Nat × Value)} {st : List Value} {ws ws0 : va_W}
theorem q_aload {i0 : Nat} {x : Nat} (j : Nat) {k : Fin 4} (hd : decode si.1 pc = .ok (.aload_n k, 1)) (hi : (k : Nat) = i0) (hk : lv[j]? = some (i0, .ref x)) (h : CW E si cells slots Qf (pc + 1) lv (.ref x :: st) ws) : CW E si cells slots Qf pc lv st ws := by
  obtain ⟨p, l, e, R, s, m, args, below, meth, c, A, G⟩ := E
  intro hok H locs ls hP hD hS hl
  exact lv_aload_n hok.1 hok.2.1 hd hi (lv_at hl j hk) (h hok H locs ls hP hD hS hl)
theorem q_iconst {n : Int} {v : Int32} (hd : decode si.1 pc = .ok (.iconst n, 1)) (hv : Int32.ofInt n = v) (h : CW E si cells slots Qf (pc + 1) lv (.int v :: st) ws) : CW E si cells slots Qf pc lv st ws := by
  obtain ⟨p, l, e, R, s, m, args, below, meth, c, A, G⟩ := E
  intro hok H locs ls hP hD hS hl
  exact lv_iconst hok.1 hok.2.1 hd hv (h hok H locs ls hP hD hS hl)
theorem q_bipush {n : Int} {v : Int32} (hd : decode si.1 pc = .ok (.bipush n, 2)) (hv : (Int8.ofInt n).toInt32 = v) (h : CW E si cells slots Qf (pc + 2) lv (.int v :: st) ws) : CW E si cells slots Qf pc lv st ws := by
  obtain ⟨p, l, e, R, s, m, args, below, meth, c, A, G⟩ := E
  intro hok H locs ls hP hD hS hl
  exact lv_bipush hok.1 hok.2.1 hd hv (h hok H locs ls hP hD hS hl)
theorem q_sipush {n : Int} {v : Int32} (hd : decode si.1 pc = .ok (.sipush n, 3)) (hv : (Int16.ofInt n).toInt32 = v) (h : CW E si cells slots Qf (pc + 3) lv (.int v :: st) ws) : CW E si cells slots Qf pc lv st ws := by
  obtain ⟨p, l, e, R, s, m, args, below, meth, c, A, G⟩ := E
  intro hok H locs ls hP hD hS hl
  exact lv_sipush hok.1 hok.2.1 hd hv (h hok H locs ls hP hD hS hl)
theorem q_ldc2 {index : Nat} {v : Int64} (hd : decode si.1 pc = .ok (.ldc2_w index, 3)) (hc : Cond.constantLong si.2.1 index v ∈ WS) (h : CW E si cells slots Qf (pc + 3) lv (.long v :: st) ws) : CW E si cells slots Qf pc lv st ws := by
  obtain ⟨p, l, e, R, s, m, args, below, meth, c, A, G⟩ := E
  intro hok H locs ls hP hD hS hl
  exact lv_ldc2 hok.1 hok.2.1 hok.2.2.1 (hok.2.2.2.2.2.2.2.2.1 _ hc) hd (h hok H locs ls hP hD hS hl)
theorem q_dup {x : Nat} (hd : decode si.1 pc = .ok (.dup, 1)) (h : CW E si cells slots Qf (pc + 1) lv (.ref x :: .ref x :: st) ws) : CW E si cells slots Qf pc lv (.ref x :: st) ws := by
  obtain ⟨p, l, e, R, s, m, args, below, meth, c, A, G⟩ := E
  intro hok H locs ls hP hD hS hl
  exact lv_dup hok.1 hok.2.1 hd rfl (h hok H locs ls hP hD hS hl)
theorem q_objInit {idx x : Nat} (hl0 : Cond.methodLink si.2.1 idx objectInit ∈ WS) (hin : Cond.instanceMethod objectInit ∈ WS) (hcd : Cond.code objectInit ⟨#[0xb1]⟩ 1 none ∈ WS) (hd : decode si.1 pc = .ok (.invokespecial idx, 3)) (hR : 1 ≤ si.2.2.2.2.1 ∧ 12 ≤ si.2.2.2.2.2) (h : CW E si cells slots Qf (pc + 3) lv [] ws) : CW E si cells slots Qf pc lv [.ref x] ws := by
  obtain ⟨p, l, e, R, s, m, args, below, meth, c, A, G⟩ := E
  intro hok H locs ls hP hD hS hl
  obtain ⟨hx, hb, hown, hml, hrt, hf1, hf2, hlk, hts, hN, hK, hA⟩ := id hok
  exact W.objInit hx hb hown (hts _ hl0) (hts _ hin) (hts _ hcd) rfl (hl.1.trans hml.symm) rfl hd (Nat.le_trans hR.1 hf1) (by show 2 * 0 + 0 + 12 ≤ _; have := hR.2; omega) (h hok H locs ls hP hD hS hl)
theorem q_newa {ty : FieldType} {at0 : ArrayType} {n : Int32} {k t0 : Nat} {a0 : vp_A} {cA0 : ClassId} (hty : newarray.typeOf at0 = ty) (hnob : ∀ C, ty ≠ .object C) (ht : (tysT (EG E))[t0]? = some (cA0, ty)) (hd : decode si.1 pc = .ok (.newarray at0, 2)) (hw : Cond.arrayClass (newarray.typeOf at0) ∈ WS) (hn : ¬ n < 0) (hk : n.toNatClampNeg = k) (hRC : RC E (cells + 1) (slots + k)) (hb8 : k * componentBytes ty ≤ 536870912)
    (ha : ∀ cA : ClassId, vp_cell cA a0 = arrV cA k (fun _ => defaultValue ty))
    (h : ∀ q : Nat, CW E si (cells + 1) (slots + k) Qf (pc + 2) lv (.ref q :: st) (ws ++ [(q, .inl (cA0, a0))])) : CW E si cells slots Qf pc lv (.int n :: st) ws := by
  obtain ⟨p, l, e, R, s, m, args, below, meth, c, A, G⟩ := E
  intro hok H locs ls hP hD hS hl
  obtain ⟨hx, hb, hown, hml, hrt, hf1, hf2, hlk, hts, hN, hK, hA⟩ := id hok
  refine va_newa hx hb (hts _ hw) hty hK hP hD hS hA ha hn hk hb8 hRC.1 hRC.2 hd (fun q cA H1 hK1 hP1 hD1 hS1 => ?_)
  have e1 : cA = cA0 := by
    have h1 := (hK.2 t0 _ ht).2
    have h2 := (hK1.2 (tysT G).length (cA, ty) (by simp)).2
    cases ty with
    | object C => exact absurd rfl (hnob C)
    | _ => exact Option.some.inj (h2.symm.trans h1)
  subst e1
  exact h q hok H1 locs ls hP1 hD1 hS1 hl
theorem q_new {ci idx N : Nat} {C : String} {T : u_T} (fs : List Value) (hc : vwCl[ci]? = some (C, T, N)) (hin : ∀ w ∈ u_ws C T N, w ∈ WS) (ty : Nat → FieldType) (hty : ∀ k, k < N → parseFieldDescriptor (T k).2.2.1 = some (ty k)) (hfs : ∀ j, j < N → defaultValue (ty j) = vp_V fs j) (hcl : Cond.classLink si.2.1 idx C ∈ WS) (hinst : Cond.instantiable C N ∈ WS) (hini : Cond.initialized C ∈ WS) (hRC : RC E (cells + 1) (slots + N)) (hd : decode si.1 pc = .ok (.new idx, 3))
    (h : ∀ q : Nat, CW E si (cells + 1) (slots + N) Qf (pc + 3) lv (.ref q :: st) (ws ++ [(q, .inr (ci, fs))])) : CW E si cells slots Qf pc lv st ws := by
  obtain ⟨p, l, e, R, s, m, args, below, meth, c, A, G⟩ := E
  intro hok H locs ls hP hD hS hl
  obtain ⟨hx, hb, hown, hml, hrt, hf1, hf2, hlk, hts, hN, hK, hA⟩ := id hok
  exact va_new hx hb hts hin ty hty hown (hts _ hcl) (hts _ hinst) (hts _ hini) hK hP hD hS hA hc hfs hRC.1 hRC.2 hd (fun q H1 hP1 hD1 hS1 => h q hok H1 locs ls hP1 hD1 hS1 hl)
theorem q_put {a ci idx N : Nat} {C : String} {T : u_T} {fs : List Value} {v : Value} {fty : FieldType} (k : Nat) (hws : ws[0]? = some (a, .inr (ci, fs))) (hc : vwCl[ci]? = some (C, T, N)) (hin : ∀ w ∈ u_ws C T N, w ∈ WS) (ty0 : Nat → FieldType) (hty : ∀ k, k < N → parseFieldDescriptor (T k).2.2.1 = some (ty0 k)) (hnm : ∀ a, a < N → ∀ b, b < N → a ≠ b → (T a).2.1 ≠ (T b).2.1) (hlt : k < N) (hw : Cond.fieldLink si.2.1 idx (T k).1 (T k).2.1 (T k).2.2.1 ∈ WS) (hfin : (T k).2.2.2 = false) (hde : parseFieldDescriptor (T k).2.2.1 = some fty) (hn : narrow fty v = v) (hfit : fits fty v = true) (hlen : k < fs.length) (hd : decode si.1 pc = .ok (.putfield idx, 3))
    (h : CW E si cells slots Qf (pc + 3) lv st (ws.set 0 (a, .inr (ci, fs.set k v)))) : CW E si cells slots Qf pc lv (v :: .ref a :: st) ws := by
  obtain ⟨p, l, e, R, s, m, args, below, meth, c, A, G⟩ := E
  intro hok H locs ls hP hD hS hl
  obtain ⟨hx, hb, hown, hml, hrt, hf1, hf2, hlk, hts, hN, hK, hA⟩ := id hok
  exact va_put hx hb hts hin ty0 hty hnm hown hK hP hD hS 0 hws hc k hlt (hts _ hw) (fun _ q => q) hfin hde hn hfit hlen hd (fun H1 locs1 hP1 hD1 hS1 => h hok H1 locs1 ls hP1 hD1 hS1 hl)
theorem q_putF {a ci idx N : Nat} {C : String} {T : u_T} {fs : List Value} {v : Value} {fty : FieldType} (k : Nat) (hI : isInit E) (hws : ws[0]? = some (a, .inr (ci, fs))) (hc : vwCl[ci]? = some (C, T, N)) (hin : ∀ w ∈ u_ws C T N, w ∈ WS) (ty0 : Nat → FieldType) (hty : ∀ k, k < N → parseFieldDescriptor (T k).2.2.1 = some (ty0 k)) (hnm : ∀ a, a < N → ∀ b, b < N → a ≠ b → (T a).2.1 ≠ (T b).2.1) (hlt : k < N) (hw : Cond.fieldLink si.2.1 idx (T k).1 (T k).2.1 (T k).2.2.1 ∈ WS) (hfin : (T k).2.2.2 = true) (hdecl : (T k).1 = si.2.1) (hde : parseFieldDescriptor (T k).2.2.1 = some fty) (hn : narrow fty v = v) (hfit : fits fty v = true) (hlen : k < fs.length) (hd : decode si.1 pc = .ok (.putfield idx, 3))
    (h : CW E si cells slots Qf (pc + 3) lv st (ws.set 0 (a, .inr (ci, fs.set k v)))) : CW E si cells slots Qf pc lv (v :: .ref a :: st) ws := by
  obtain ⟨p, l, e, R, s, m, args, below, meth, c, A, G⟩ := E
  intro hok H locs ls hP hD hS hl
  obtain ⟨hx, hb, hown, hml, hrt, hf1, hf2, hlk, hts, hN, hK, hA⟩ := id hok
  exact va_putF hx hb hts hin ty0 hty hnm hown hK hP hD hS 0 hws hc k hlt (hts _ hw) (fun _ q => q) hfin hI hdecl hde hn hfit hlen hd (fun H1 locs1 hP1 hD1 hS1 => h hok H1 locs1 ls hP1 hD1 hS1 hl)
theorem q_get {a ci idx N : Nat} {C : String} {T : u_T} {fs : List Value} {v : Value} (k : Nat) (hws : ws[0]? = some (a, .inr (ci, fs))) (hc : vwCl[ci]? = some (C, T, N)) (hin : ∀ w ∈ u_ws C T N, w ∈ WS) (hlt : k < N) (hw : Cond.fieldLink si.2.1 idx (T k).1 (T k).2.1 (T k).2.2.1 ∈ WS) (hv : fs[k]? = some v) (hd : decode si.1 pc = .ok (.getfield idx, 3))
    (h : CW E si cells slots Qf (pc + 3) lv (v :: st) ws) : CW E si cells slots Qf pc lv (.ref a :: st) ws := by
  obtain ⟨p, l, e, R, s, m, args, below, meth, c, A, G⟩ := E
  intro hok H locs ls hP hD hS hl
  obtain ⟨hx, hb, hown, hml, hrt, hf1, hf2, hlk, hts, hN, hK, hA⟩ := id hok
  exact va_get hx hb hts hin hown hK hP 0 hws hc k hlt (hts _ hw) (fun _ q => q) hv hd (h hok H locs ls hP hD hS hl)
theorem q_lastore {a n : Nat} {f : Nat → Int64} {j : Int32} {x : Int64} (k : Nat) (hws : ws[k]? = some (a, .inl ((EG E).2.1.2.1, n, .inr (.inl f)))) (hj : vp_in j n) (hd : decode si.1 pc = .ok (.lastore, 1))
    (h : CW E si cells slots Qf (pc + 1) lv st (ws.set k (a, .inl ((EG E).2.1.2.1, n, .inr (.inl (vp_updL f j.toNatClampNeg x)))))) : CW E si cells slots Qf pc lv (.long x :: .int j :: .ref a :: st) ws := by
  obtain ⟨p, l, e, R, s, m, args, below, meth, c, A, G⟩ := E
  intro hok H locs ls hP hD hS hl
  obtain ⟨hx, hb, hown, hml, hrt, hf1, hf2, hlk, hts, hN, hK, hA⟩ := id hok
  exact va_last hx hb hK hP hD hS k 1 hws rfl hj hd (fun H1 locs1 hP1 hD1 hS1 => h hok H1 locs1 ls hP1 hD1 hS1 hl)
theorem q_ret {Wp : va_W → Prop} (hd : decode si.1 pc = .ok (.return_, 1)) (hr : si.2.2.2.1 = none) (hw : Wp ws) : CW E si cells slots (QC E Wp cells slots) pc lv [] ws := by
  obtain ⟨p, l, e, R, s, m, args, below, meth, c, A, G⟩ := E
  intro hok H locs ls hP hD hS hl
  obtain ⟨hx, hb, hown, hml, hrt, hf1, hf2, hlk, hts, hN, hK, hA⟩ := id hok
  have key := W.vret (p := p) (l := l) (e := e) (R := R) (s := s) (m := m) (args := args) (below := below) (meth := meth) (c := c) (H := H) (locs := locs) (cells := cells) (slots := slots) (ls := ls) (Qc := fun _ st oc t => oc = .returned none ∧ (∃ w1, Wp w1 ∧ va_P G.1 vwCl w1 t.heap ∧ va_D A w1) ∧ va_F A st t) (free := A) hx hb (hrt.trans hr) (fun t ht hW => ⟨rfl, ⟨ws, hw, by rw [ht]; exact hP, hD⟩, hS.F ht⟩) hS.2.2 hd hlk
  exact key
theorem q_after {p : Program} {l : Launch} {e : Env} {R : Room} {s : State} {m : MethodId} {args : Array Value} {below : List Frame} {meth : Method} {c : Code} {A : Nat → Prop} {G : XG} {mc ms q ci : Nat} {fs0 rest st0 : List Value} {Wp : XG → Nat → va_W → Prop} {ls : Array Slot} {aa : Array Value} {H : Heap} {locs : List Loc}
    (hr : va_Run p l e R s m args below meth c H locs cells slots mc ms (F0 m pc ls st0) rest ((fun _ st oc t => oc = .returned none ∧ (∃ w1, Wp G q w1 ∧ va_P G.1 vwCl w1 t.heap ∧ va_D (va_A [(q, .inr (ci, fs0))] H.size) w1) ∧ va_F (va_A [(q, .inr (ci, fs0))] H.size) st t : Array Value → State → Outcome → State → Prop) aa) (va_A [(q, .inr (ci, fs0))] H.size))
    (hP : va_P G.1 vwCl (ws0 ++ [(q, .inr (ci, fs0))]) H) (hD : va_D A (ws0 ++ [(q, .inr (ci, fs0))])) (hS : va_S A s.heap H locs) (hA : ∀ q, s.heap.size ≤ q → A q)
    (kk : ∀ (w1 : va_W) (H1 : Heap) (locs1 : List Loc), Wp G q w1 → va_P G.1 vwCl (ws0 ++ w1) H1 → va_D A (ws0 ++ w1) → va_S A s.heap H1 locs1 → W p l e R s m args below meth c H1 locs1 (cells + mc) (slots + ms) Qf (F0 m (pc + 3) ls rest)) : W p l e R s m args below meth c H locs cells slots Qf (F0 m pc ls st0) := by
  have hup : ∀ q, H.size ≤ q → A q := fun q h => hA q (Nat.le_trans hS.1 h)
  have hAG : ∀ z, va_A [(q, .inr (ci, fs0))] H.size z → A z := by
    intro z h
    rcases h with ⟨k2, e2, h⟩ | h
    · have hk2 : k2 = 0 := by
        have := (List.getElem?_eq_some_iff.mp h).1
        simp at this
        exact this
      subst hk2
      have e1 := Option.some.inj h
      have h9 := hD.2 ws0.length (q, .inr (ci, fs0)) (by simp)
      have e3 : z = q := by
        have := congrArg Prod.fst e1
        exact this.symm
      rw [e3]
      exact h9
    · exact hup z h
  intro T hT X
  obtain ⟨v, st₀, t, T', L, h0, X', hL, e1, e2, ⟨hv, ⟨w1, hw1, hp, hd1⟩, hF⟩, st⟩ := hr T hT X
  cases hv
  obtain ⟨k1, k2, k3⟩ := vx_keep h0 e1 hS (fun z _ h => hAG z h) hAG hL hF
  obtain ⟨j1, j2⟩ := wjoin hP hD k2 (by rw [e1]; exact hp) hd1 hup
  obtain ⟨t2, a1, b1⟩ := kk w1 T'.heap (locs ++ L) hw1 j1 j2 k3 T' rfl X'
  exact ⟨t2, st t2 a1, b1⟩
theorem AC_blind {G : XG} {q sz ci : Nat} {fs0 as : List Value} : FrameBlind (fun a U => a = (Value.ref q :: as).toArray ∧ U.heap.size = sz ∧ va_P G.1 vwCl [(q, .inr (ci, fs0))] U.heap ∧ va_K G.1 vwCl (tysT G) U ∧ ∀ w ∈ WN, va_Nw (NwL w) U) := by
  intro a U g mk h
  obtain ⟨h1, h2, h3, h4, h5⟩ := h
  exact ⟨h1, h2, h3, va_K.moved (u := U) (U := U.calling g mk a) (Vm.Alike.refl U.vm) h4, fun w hw => va_Nw.same (u := U) (U := U.calling g mk a) rfl rfl (h5 w hw)⟩
theorem lastP {D : va_G} {cl : List vw_C} {x : Nat × va_E} {H : Heap} (hP : va_P D cl (ws0 ++ [x]) H) : va_P D cl [x] H := by
  intro k q h
  have hk : k = 0 := by
    have := (List.getElem?_eq_some_iff.mp h).1
    simp at this
    exact this
  subst hk
  have e1 : x = q := Option.some.inj h
  subst e1
  exact hP ws0.length x (by simp)
theorem q_callI {mi : MI} {fr lc mc ms ci idx q : Nat} {fs0 as stk : List Value} {Wp : XG → Nat → va_W → Prop} (hM : AC mi fr lc mc ms ci fs0 as Wp) (hnm : mi.1.name = "<init>") (hret : mi.2.2.2 = none) (hl : Cond.methodLink si.2.1 idx mi.1 ∈ WS) (hinm : Cond.instanceMethod mi.1 ∈ WS) (hini : Cond.initialized mi.1.cls ∈ WS) (hcd : Cond.code mi.1 mi.2.1 mi.2.2.1 mi.2.2.2 ∈ WS) (hpl : plainF mi as.length) (hR : fr + 1 ≤ si.2.2.2.2.1 ∧ 8 + (mi.2.2.1 + 11) + lc ≤ si.2.2.2.2.2) (hRC : RC E (cells + mc) (slots + ms)) (hd : decode si.1 pc = .ok (.invokespecial idx, 3)) (hstk : as.reverse ++ .ref q :: st = stk) (hsum : (st.map fun v => v.category).sum ≤ 8)
    (h : ∀ w1, Wp (EG E) q w1 → CW E si (cells + mc) (slots + ms) Qf (pc + 3) lv st (ws0 ++ w1)) : CW E si cells slots Qf pc lv stk (ws0 ++ [(q, .inr (ci, fs0))]) := by
  obtain ⟨p, l, e, R, s, m, args, below, meth, c, A, G⟩ := E
  intro hok H locs ls hP hD hS hl2
  subst hstk
  obtain ⟨hx, hb, hown, hml, hrt, hf1, hf2, hlk, hts, hN, hK, hA⟩ := id hok
  obtain ⟨y, by0, mL, rt⟩ := mi
  have hret : rt = none := hret
  subst hret
  refine q_after (aa := (Value.ref q :: as).toArray) (va_runI (As := as) (b := q) (rest := st) (n := as.length) (Ts := WS) (nL := si.2.2.1) (own := si.2.1) ⟨hx, hb, hml, hown, hts⟩ (hM l G q H.size) (cwI _ hts (wsM_good hcd) rfl rfl rfl (hts _ hini) (hts _ hl) (hts _ hinm) hnm hpl ⟨Nat.le_trans hR.1 hf1, Nat.le_trans hR.2 hf2⟩) ⟨AC_blind, fun U hU hW => ⟨rfl, by rw [hU], by rw [hU]; exact lastP hP, va_K.moved hW.alike hK, fun w hw => va_Nw.warmM hW (hN w hw)⟩⟩ rfl rfl hl2.1 rfl (lv_room hsum) hd hRC) hP hD hS hA (fun w1 H1 locs1 hw1 hP1 hD1 hS1 => ?_)
  exact h w1 hw1 hok H1 locs1 ls hP1 hD1 hS1 hl2
theorem q_callIN {mi : MI} {fr lc mc ms ci idx q : Nat} {host : String} {fs0 as stk : List Value} {Wp : XG → Nat → va_W → Prop} (hM : AC mi fr lc mc ms ci fs0 as Wp) (hnm : mi.1.name = "<init>") (hret : mi.2.2.2 = none) (hl : (si.2.1, idx, mi.1, host) ∈ WN) (hinm : Cond.instanceMethod mi.1 ∈ WS) (hini : Cond.initialized mi.1.cls ∈ WS) (hcd : Cond.code mi.1 mi.2.1 mi.2.2.1 mi.2.2.2 ∈ WS) (hpl : plainF mi as.length) (hR : fr + 1 ≤ si.2.2.2.2.1 ∧ 8 + (mi.2.2.1 + 11) + lc ≤ si.2.2.2.2.2) (hRC : RC E (cells + mc) (slots + ms)) (hd : decode si.1 pc = .ok (.invokespecial idx, 3)) (hstk : as.reverse ++ .ref q :: st = stk) (hsum : (st.map fun v => v.category).sum ≤ 8)
    (h : ∀ w1, Wp (EG E) q w1 → CW E si (cells + mc) (slots + ms) Qf (pc + 3) lv st (ws0 ++ w1)) : CW E si cells slots Qf pc lv stk (ws0 ++ [(q, .inr (ci, fs0))]) := by
  obtain ⟨p, l, e, R, s, m, args, below, meth, c, A, G⟩ := E
  intro hok H locs ls hP hD hS hl2
  subst hstk
  obtain ⟨hx, hb, hown, hml, hrt, hf1, hf2, hlk, hts, hN, hK, hA⟩ := id hok
  obtain ⟨y, by0, mL, rt⟩ := mi
  have hret : rt = none := hret
  subst hret
  refine q_after (aa := (Value.ref q :: as).toArray) (va_runIN (As := as) (b := q) (rest := st) (n := as.length) (Ts := WS) (nL := si.2.2.1) (own := si.2.1) (host := host) ⟨hx, hb, hml, hown, hts⟩ (hM l G q H.size) ⟨va_cnB _ hts (wsM_good hcd) rfl rfl rfl (hN _ hl) (hts _ hini) hpl ⟨Nat.le_trans hR.1 hf1, Nat.le_trans hR.2 hf2⟩, hnm, hts _ hinm⟩ ⟨AC_blind, fun U hU hW => ⟨rfl, by rw [hU], by rw [hU]; exact lastP hP, va_K.moved hW.alike hK, fun w hw => va_Nw.warmM hW (hN w hw)⟩⟩ rfl rfl hl2.1 rfl (lv_room hsum) hd hRC) hP hD hS hA (fun w1 H1 locs1 hw1 hP1 hD1 hS1 => ?_)
  exact h w1 hw1 hok H1 locs1 ls hP1 hD1 hS1 hl2
theorem c_fill (l : Launch) (G : XG) (q sz n : Nat) (hn : n ≤ 1000) (f : Nat → Int32) (x : Int32) : Met l yJ7_fill_53178 (wsM mi_J7_fill_53178) { frames := 0, cells := 0, slots := 0, locals := 0 }
    (fun a U => a = #[.ref q, .int x] ∧ U.heap.size = sz ∧ va_P G.1 vwCl [(q, .inl (G.2.1.1, n, .inl f))] U.heap ∧ va_K G.1 vwCl (tysT G) U)
    (fun _ st oc t => oc = .returned none ∧ va_P G.1 vwCl [(q, .inl (G.2.1.1, n, .inl (fun j => if j < n then x else f j)))] t.heap ∧ va_F (va_A [(q, .inl (G.2.1.1, n, .inl f))] sz) st t) 0 0 (va_A [(q, .inl (G.2.1.1, n, .inl f))] sz) := by
  refine Met.ofW (cc := cJ7_fill_53178) (maxL := 4) (ret := none) (by decide +kernel) rfl ?_
  intro p e s m args below meth c s₁ B hml hv
  obtain ⟨rfl, rfl, hP, hK⟩ := hv
  have hx := B.exec
  have hb := B.bytes
  have hr := B.returns
  have hlk := B.notSynchronized
  have hD : va_D (va_A [(q, .inl (G.2.1.1, n, .inl f))] s.heap.size) [(q, .inl (G.2.1.1, n, .inl f))] := by
    have h0 : va_D (fun _ => True) [(q, (.inl (G.2.1.1, n, .inl f) : va_E))] := by
      refine ⟨fun i j a b ha hb _ => ?_, fun _ _ _ => trivial⟩
      have h1 := (List.getElem?_eq_some_iff.mp ha).1
      have h2 := (List.getElem?_eq_some_iff.mp hb).1
      simp at h1 h2
      omega
    exact h0.self
  generalize va_A [(q, .inl (G.2.1.1, n, .inl f))] s.heap.size = A at hD ⊢
  have hl := lv_entry ([.ref q, .int x]) (n := 4) (Nat.le_of_ble_eq_true rfl)
  rw [show (#[Value.ref q, Value.int x] : Array Value) = ([Value.ref q, Value.int x] : List Value).toArray from rfl, lg_entry_eq]
  generalize (lg_sl ([.ref q, .int x]) ++ List.replicate (4 - (lg_sl ([.ref q, .int x])).length) Slot.unset).toArray = ls at hl ⊢
  have hl : lv_has ls 4 [(0, .ref q), (1, .int x)] := hl
  refine lv_iconst (v := 0) hx hb dJ7_fill_53178_0 (by decide) ?_
  refine lv_istore_n (lv' := [(2, .int 0), (0, .ref q), (1, .int x)]) hx hb dJ7_fill_53178_1 rfl hl (by decide) rfl (fun ls hl => ?_)
  refine lv_aload_n hx hb dJ7_fill_53178_2 rfl (lv_at hl 1 rfl) ?_
  refine va_alen (x := (n, .inl f)) hx hb hK hP 0 0 rfl rfl rfl dJ7_fill_53178_3 ?_
  refine lv_istore_n (lv' := [(3, .int (Int32.ofNat n)), (2, .int 0), (0, .ref q), (1, .int x)]) hx hb dJ7_fill_53178_4 rfl hl (by decide) rfl (fun ls hl => ?_)
  have loop : ∀ (k i : Nat) (g : Nat → Int32) (H : Heap) (locs : List Loc) (ls : Array Slot), i + k = n → (∀ j, g j = if j < i then x else f j) → va_P G.1 vwCl [(q, .inl (G.2.1.1, n, .inl g))] H → va_D A [(q, .inl (G.2.1.1, n, .inl g))] → va_S A s.heap H locs → lv_has ls 4 [(3, .int (Int32.ofNat n)), (2, .int (nI i)), (0, .ref q), (1, .int x)] →
      W p l e (headSpec (wsM mi_J7_fill_53178) { frames := 0, cells := 0, slots := 0, locals := 0 }).room s m #[.ref q, .int x] below meth c H locs 0 0 (MQ below (fun _ st oc t => oc = .returned none ∧ va_P G.1 vwCl [(q, .inl (G.2.1.1, n, .inl (fun j => if j < n then x else f j)))] t.heap ∧ va_F A st t) #[.ref q, .int x] s 0 0 A) (F0 m 5 ls []) := by
    intro k
    induction k with
    | zero =>
      intro i g H locs ls hik hg hP hD hS hl
      have : i = n := by omega
      subst this
      refine lv_iload_n hx hb dJ7_fill_53178_5 rfl (lv_at hl 1 rfl) ?_
      refine lv_iload_n hx hb dJ7_fill_53178_6 rfl (lv_at hl 0 rfl) ?_
      refine lv_icmp_ge (tgt := 20) hx hb dJ7_fill_53178_7 (by decide) (fun _ => ?_) (fun z => absurd (Int32.le_refl _) z)
      have hg' : g = fun j => if j < i then x else f j := funext hg
      subst hg'
      exact W.vret hx hb hr (fun t ht hW => ⟨rfl, by rw [ht]; exact hP, hS.F ht⟩) hS.2.2 dJ7_fill_53178_20 hlk
    | succ k ih =>
      intro i g H locs ls hik hg hP hD hS hl
      have hlt : i < n := by omega
      refine lv_iload_n hx hb dJ7_fill_53178_5 rfl (lv_at hl 1 rfl) ?_
      refine lv_iload_n hx hb dJ7_fill_53178_6 rfl (lv_at hl 0 rfl) ?_
      refine lv_icmp_ge (tgt := 20) hx hb dJ7_fill_53178_7 (by decide) (fun z => ?_) (fun _ => ?_)
      · exfalso
        have h1 : (Int32.ofNat n) ≤ (Int32.ofNat i) := z
        have := (Int32.ofNat_le_ofNat (show n < 2 ^ 31 by omega) (show i < 2 ^ 31 by omega)).mp h1
        omega
      · refine lv_aload_n hx hb dJ7_fill_53178_10 rfl (lv_at hl 2 rfl) ?_
        refine lv_iload_n hx hb dJ7_fill_53178_11 rfl (lv_at hl 1 rfl) ?_
        refine lv_iload_n hx hb dJ7_fill_53178_12 rfl (lv_at hl 3 rfl) ?_
        have hin : vp_in (nI i) n := vp_in_nI hlt (by omega)
        refine va_iast hx hb hK hP hD hS 0 0 rfl rfl hin dJ7_fill_53178_13 (fun H1 locs1 hP1 hD1 hS1 => ?_)
        have hclamp : (nI i).toNatClampNeg = i := by
          unfold nI
          simp [Int32.toNatClampNeg, Int32.toInt_ofNat_of_lt (show i < 2 ^ 31 by omega)]
        rw [hclamp] at hP1 hD1
        refine lv_iinc (k := 1) (v := nI (i + 1)) (lv' := [(2, .int (nI (i + 1))), (3, .int (Int32.ofNat n)), (0, .ref q), (1, .int x)]) hx hb dJ7_fill_53178_14 hl rfl (nI_1 i) (by decide) rfl (fun ls hl => ?_)
        refine lv_goto (tgt := 5) hx hb dJ7_fill_53178_17 (by decide) ?_
        refine ih (i + 1) (upd g i x) H1 locs1 ls (by omega) (fun j => ?_) hP1 hD1 hS1 (lv_sub hl [1, 0, 2, 3] rfl)
        unfold upd
        by_cases hj : j = i
        · subst hj
          simp
        · rw [if_neg hj, hg j]
          by_cases h9 : j < i
          · rw [if_pos h9, if_pos (by omega)]
          · rw [if_neg h9, if_neg (by omega)]
  exact loop n 0 f s.heap [] ls (by omega) (fun j => by simp) hP hD va_S.rf hl
theorem setP {D : va_G} {cl : List vw_C} {A : Nat → Prop} {a : Nat} {e0 e1 : va_E} {k : Nat} {H H1 : Heap} {ws : va_W} (hP : va_P D cl ws H) (hD : va_D A ws) (hk : ws[k]? = some (a, e0)) (hkk : ∀ q : Nat, q < H.size → ¬ va_A [(a, e0)] H.size q → H1[q]? = H[q]?) (hP1 : va_P D cl [(a, e1)] H1) : va_P D cl (ws.set k (a, e1)) H1 := by
  intro j q hj
  by_cases hjk : j = k
  · subst hjk
    have hl := (List.getElem?_eq_some_iff.mp hk).1
    rw [List.getElem?_set_self hl] at hj
    cases hj
    exact hP1 0 (a, e1) rfl
  · rw [List.getElem?_set_ne (Ne.symm hjk)] at hj
    have hl := (hP j q hj).lt
    refine (hP j q hj).kept (hkk q.1 hl (fun z => ?_))
    rcases z with ⟨k2, e2, z⟩ | z
    · have hk2 : k2 = 0 := by
        have := (List.getElem?_eq_some_iff.mp z).1
        simp at this
        exact this
      subst hk2
      have e3 : (a, e0) = (q.1, e2) := Option.some.inj z
      exact hjk (hD.1 j k q (a, e0) hj hk (by rw [congrArg Prod.fst e3]))
    · omega
theorem q_fill {a n idx : Nat} {f : Nat → Int32} {x : Int32} (k : Nat) (hws : ws[k]? = some (a, .inl ((EG E).2.1.1, n, .inl f))) (hn : n ≤ 1000) (hl : Cond.methodLink si.2.1 idx yJ7_fill_53178 ∈ WS) (hR : 1 ≤ si.2.2.2.2.1 ∧ 23 ≤ si.2.2.2.2.2) (hRC : RC E cells slots) (hd : decode si.1 pc = .ok (.invokestatic idx, 3)) (hsum : (st.map fun v => v.category).sum ≤ 8)
    (h : CW E si cells slots Qf (pc + 3) lv st (ws.set k (a, .inl ((EG E).2.1.1, n, .inl (fun j => if j < n then x else f j))))) : CW E si cells slots Qf pc lv (.int x :: .ref a :: st) ws := by
  obtain ⟨p, l, e, R, s, m, args, below, meth, c, A, G⟩ := E
  intro hok H locs ls hP hD hS hl2
  obtain ⟨hx, hb, hown, hml, hrt, hf1, hf2, hlk, hts, hN, hK, hA⟩ := id hok
  have hP0 : va_P G.1 vwCl [(a, .inl (G.2.1.1, n, .inl f))] H := by
    intro j q hj
    have hj0 : j = 0 := by
      have := (List.getElem?_eq_some_iff.mp hj).1
      simp at this
      exact this
    subst hj0
    cases hj
    exact hP k _ hws
  have hup : ∀ q, H.size ≤ q → A q := fun q h => hA q (Nat.le_trans hS.1 h)
  have hAG : ∀ z, va_A [(a, .inl (G.2.1.1, n, .inl f))] H.size z → A z := by
    intro z h
    rcases h with ⟨k2, e2, h⟩ | h
    · have hk2 : k2 = 0 := by
        have := (List.getElem?_eq_some_iff.mp h).1
        simp at this
        exact this
      subst hk2
      have e1 := Option.some.inj h
      have h9 := hD.2 k _ hws
      have e3 : z = a := (congrArg Prod.fst e1).symm
      rw [e3]
      exact h9
    · exact hup z h
  have hr := va_runS (p := p) (l := l) (e := e) (R := R) (s := s) (m := m) (args := args) (below := below) (meth := meth) (c := c) (H := H) (locs := locs) (cells := cells) (slots := slots) (g := F0 m pc ls (.int x :: .ref a :: st)) (As := [.ref a, .int x]) (rest := st) (n := 2) (bytes := cJ7_fill_53178) (maxL := 4) (ret := none) (Ts := WS) (nL := si.2.2.1) (own := si.2.1) (index := idx) ⟨hx, hb, hml, hown, hts⟩ (c_fill l G a H.size n hn f x) ⟨callB_of _ hts (wsM_good (mi := mi_J7_fill_53178) cw_J7_fill_53178) rfl rfl rfl (hts _ nw_J7) (hts _ hl) (by decide +kernel) ⟨Nat.le_trans hR.1 hf1, Nat.le_trans hR.2 hf2⟩, hts _ sw_J7_fill_53178⟩ ⟨?_, fun U hU hW => ⟨rfl, by rw [hU], by rw [hU]; exact hP0, va_K.moved hW.alike hK⟩⟩ rfl rfl hl2.1 rfl (lv_room hsum) hd hRC
  · intro T hT X
    obtain ⟨v, st₀, t, T', L, h0, X', hL, e1, e2, ⟨hv, hp, hF⟩, st9⟩ := hr T hT X
    cases hv
    obtain ⟨k1, k2, k3⟩ := vx_keep h0 e1 hS (fun z _ h => hAG z h) hAG hL hF
    obtain ⟨t2, a1, b1⟩ := h hok T'.heap (locs ++ L) ls (setP hP hD hws k2 (by rw [e1]; exact hp)) (hD.set hws) k3 hl2 T' rfl X'
    exact ⟨t2, st9 t2 a1, b1⟩
  · intro a9 U g mk h
    obtain ⟨h1, h2, h3, h4⟩ := h
    exact ⟨h1, h2, h3, va_K.moved (u := U) (U := U.calling g mk a9) (Vm.Alike.refl U.vm) h4⟩
end CWS
section CWN
variable {E : XE} {si : SI} {cells slots : Nat} {Qf : State → Prop} {pc : Nat} {lv lv' : List (Nat × Value)} {st : List Value} {hd : Nat × va_E} {tl : va_W}
theorem n_newa {ty : FieldType} {at0 : ArrayType} {n : Int32} {k t0 : Nat} {a0 : vp_A} {cA0 : ClassId} (hty : newarray.typeOf at0 = ty) (hnob : ∀ C, ty ≠ .object C) (ht : (tysT (EG E))[t0]? = some (cA0, ty)) (hdc : decode si.1 pc = .ok (.newarray at0, 2)) (hw : Cond.arrayClass (newarray.typeOf at0) ∈ WS) (hn : ¬ n < 0) (hk : n.toNatClampNeg = k) (hRC : RC E (cells + 1) (slots + k)) (hb8 : k * componentBytes ty ≤ 536870912)
    (ha : ∀ cA : ClassId, vp_cell cA a0 = arrV cA k (fun _ => defaultValue ty))
    (h : ∀ q : Nat, CW E si (cells + 1) (slots + k) Qf (pc + 2) lv (.ref q :: st) (hd :: (tl ++ [(q, .inl (cA0, a0))]))) : CW E si cells slots Qf pc lv (.int n :: st) (hd :: tl) := q_newa (ws := hd :: tl) hty hnob ht hdc hw hn hk hRC hb8 ha h
theorem n_new {ci idx N : Nat} {C : String} {T : u_T} (fs : List Value) (hc : vwCl[ci]? = some (C, T, N)) (hin : ∀ w ∈ u_ws C T N, w ∈ WS) (ty : Nat → FieldType) (hty : ∀ k, k < N → parseFieldDescriptor (T k).2.2.1 = some (ty k)) (hfs : ∀ j, j < N → defaultValue (ty j) = vp_V fs j) (hcl : Cond.classLink si.2.1 idx C ∈ WS) (hinst : Cond.instantiable C N ∈ WS) (hini : Cond.initialized C ∈ WS) (hRC : RC E (cells + 1) (slots + N)) (hdc : decode si.1 pc = .ok (.new idx, 3))
    (h : ∀ q : Nat, CW E si (cells + 1) (slots + N) Qf (pc + 3) lv (.ref q :: st) (hd :: (tl ++ [(q, .inr (ci, fs))]))) : CW E si cells slots Qf pc lv st (hd :: tl) := q_new (ws := hd :: tl) fs hc hin ty hty hfs hcl hinst hini hRC hdc h
theorem n_put {a ci idx N : Nat} {C : String} {T : u_T} {fs : List Value} (fs' : List Value) {v : Value} {fty : FieldType} (k : Nat) (hc : vwCl[ci]? = some (C, T, N)) (hin : ∀ w ∈ u_ws C T N, w ∈ WS) (ty0 : Nat → FieldType) (hty : ∀ k, k < N → parseFieldDescriptor (T k).2.2.1 = some (ty0 k)) (hnm : ∀ a, a < N → ∀ b, b < N → a ≠ b → (T a).2.1 ≠ (T b).2.1) (hlt : k < N) (hw : Cond.fieldLink si.2.1 idx (T k).1 (T k).2.1 (T k).2.2.1 ∈ WS) (hfin : (T k).2.2.2 = false) (hde : parseFieldDescriptor (T k).2.2.1 = some fty) (hn : narrow fty v = v) (hfit : fits fty v = true) (hlen : k < fs.length) (hfs : fs.set k v = fs') (hdc : decode si.1 pc = .ok (.putfield idx, 3))
    (h : CW E si cells slots Qf (pc + 3) lv st ((a, .inr (ci, fs')) :: tl)) : CW E si cells slots Qf pc lv (v :: .ref a :: st) ((a, .inr (ci, fs)) :: tl) := by
  subst hfs
  exact q_put (ws := (a, .inr (ci, fs)) :: tl) k rfl hc hin ty0 hty hnm hlt hw hfin hde hn hfit hlen hdc h
theorem n_putF {a ci idx N : Nat} {C : String} {T : u_T} {fs : List Value} (fs' : List Value) {v : Value} {fty : FieldType} (k : Nat) (hI : isInit E) (hc : vwCl[ci]? = some (C, T, N)) (hin : ∀ w ∈ u_ws C T N, w ∈ WS) (ty0 : Nat → FieldType) (hty : ∀ k, k < N → parseFieldDescriptor (T k).2.2.1 = some (ty0 k)) (hnm : ∀ a, a < N → ∀ b, b < N → a ≠ b → (T a).2.1 ≠ (T b).2.1) (hlt : k < N) (hw : Cond.fieldLink si.2.1 idx (T k).1 (T k).2.1 (T k).2.2.1 ∈ WS) (hfin : (T k).2.2.2 = true) (hdecl : (T k).1 = si.2.1) (hde : parseFieldDescriptor (T k).2.2.1 = some fty) (hn : narrow fty v = v) (hfit : fits fty v = true) (hlen : k < fs.length) (hfs : fs.set k v = fs') (hdc : decode si.1 pc = .ok (.putfield idx, 3))
    (h : CW E si cells slots Qf (pc + 3) lv st ((a, .inr (ci, fs')) :: tl)) : CW E si cells slots Qf pc lv (v :: .ref a :: st) ((a, .inr (ci, fs)) :: tl) := by
  subst hfs
  exact q_putF (ws := (a, .inr (ci, fs)) :: tl) k hI rfl hc hin ty0 hty hnm hlt hw hfin hdecl hde hn hfit hlen hdc h
theorem n_get {a ci idx N : Nat} {C : String} {T : u_T} {fs : List Value} {v : Value} (k : Nat) (hc : vwCl[ci]? = some (C, T, N)) (hin : ∀ w ∈ u_ws C T N, w ∈ WS) (hlt : k < N) (hw : Cond.fieldLink si.2.1 idx (T k).1 (T k).2.1 (T k).2.2.1 ∈ WS) (hv : fs[k]? = some v) (hdc : decode si.1 pc = .ok (.getfield idx, 3))
    (h : CW E si cells slots Qf (pc + 3) lv (v :: st) ((a, .inr (ci, fs)) :: tl)) : CW E si cells slots Qf pc lv (.ref a :: st) ((a, .inr (ci, fs)) :: tl) := q_get (ws := (a, .inr (ci, fs)) :: tl) k rfl hc hin hlt hw hv hdc h
theorem n_lastore {a n : Nat} {f : Nat → Int64} {j : Int32} {x : Int64} (k : Nat) (hws : tl[k]? = some (a, .inl ((EG E).2.1.2.1, n, .inr (.inl f)))) (hj : vp_in j n) (hdc : decode si.1 pc = .ok (.lastore, 1))
    (h : CW E si cells slots Qf (pc + 1) lv st (hd :: tl.set k (a, .inl ((EG E).2.1.2.1, n, .inr (.inl (vp_updL f j.toNatClampNeg x)))))) : CW E si cells slots Qf pc lv (.long x :: .int j :: .ref a :: st) (hd :: tl) := q_lastore (ws := hd :: tl) (k + 1) hws hj hdc h
theorem n_fill {a n idx : Nat} {f : Nat → Int32} {x : Int32} (k : Nat) (hws : tl[k]? = some (a, .inl ((EG E).2.1.1, n, .inl f))) (hn : n ≤ 1000) (hl : Cond.methodLink si.2.1 idx yJ7_fill_53178 ∈ WS) (hR : 1 ≤ si.2.2.2.2.1 ∧ 23 ≤ si.2.2.2.2.2) (hRC : RC E cells slots) (hdc : decode si.1 pc = .ok (.invokestatic idx, 3)) (hsum : (st.map fun v => v.category).sum ≤ 8)
    (h : CW E si cells slots Qf (pc + 3) lv st (hd :: tl.set k (a, .inl ((EG E).2.1.1, n, .inl (fun j => if j < n then x else f j))))) : CW E si cells slots Qf pc lv (.int x :: .ref a :: st) (hd :: tl) := q_fill (ws := hd :: tl) (k + 1) hws hn hl hR hRC hdc hsum h
theorem n_callI {mi : MI} {fr lc mc ms ci idx q : Nat} {fs0 as stk : List Value} {Wp : XG → Nat → va_W → Prop} (hM : AC mi fr lc mc ms ci fs0 as Wp) (hnm : mi.1.name = "<init>") (hret : mi.2.2.2 = none) (hl : Cond.methodLink si.2.1 idx mi.1 ∈ WS) (hinm : Cond.instanceMethod mi.1 ∈ WS) (hini : Cond.initialized mi.1.cls ∈ WS) (hcd : Cond.code mi.1 mi.2.1 mi.2.2.1 mi.2.2.2 ∈ WS) (hpl : plainF mi as.length) (hR : fr + 1 ≤ si.2.2.2.2.1 ∧ 8 + (mi.2.2.1 + 11) + lc ≤ si.2.2.2.2.2) (hRC : RC E (cells + mc) (slots + ms)) (hdc : decode si.1 pc = .ok (.invokespecial idx, 3)) (hstk : as.reverse ++ .ref q :: st = stk) (hsum : (st.map fun v => v.category).sum ≤ 8)
    (h : ∀ w1, Wp (EG E) q w1 → CW E si (cells + mc) (slots + ms) Qf (pc + 3) lv st (hd :: (tl ++ w1))) : CW E si cells slots Qf pc lv stk (hd :: (tl ++ [(q, .inr (ci, fs0))])) := q_callI (ws0 := hd :: tl) hM hnm hret hl hinm hini hcd hpl hR hRC hdc hstk hsum h
theorem n_callIN {mi : MI} {fr lc mc ms ci idx q : Nat} {host : String} {fs0 as stk : List Value} {Wp : XG → Nat → va_W → Prop} (hM : AC mi fr lc mc ms ci fs0 as Wp) (hnm : mi.1.name = "<init>") (hret : mi.2.2.2 = none) (hl : (si.2.1, idx, mi.1, host) ∈ WN) (hinm : Cond.instanceMethod mi.1 ∈ WS) (hini : Cond.initialized mi.1.cls ∈ WS) (hcd : Cond.code mi.1 mi.2.1 mi.2.2.1 mi.2.2.2 ∈ WS) (hpl : plainF mi as.length) (hR : fr + 1 ≤ si.2.2.2.2.1 ∧ 8 + (mi.2.2.1 + 11) + lc ≤ si.2.2.2.2.2) (hRC : RC E (cells + mc) (slots + ms)) (hdc : decode si.1 pc = .ok (.invokespecial idx, 3)) (hstk : as.reverse ++ .ref q :: st = stk) (hsum : (st.map fun v => v.category).sum ≤ 8)
    (h : ∀ w1, Wp (EG E) q w1 → CW E si (cells + mc) (slots + ms) Qf (pc + 3) lv st (hd :: (tl ++ w1))) : CW E si cells slots Qf pc lv stk (hd :: (tl ++ [(q, .inr (ci, fs0))])) := q_callIN (ws0 := hd :: tl) hM hnm hret hl hinm hini hcd hpl hR hRC hdc hstk hsum h
end CWN
