-- THE WORLD AS NUMBERS: every cell that the two systems hold has a number (its label); what it holds is d.1 (ints) or d.2 (longs) of the label and a place
abbrev DD : Type := (Nat → Nat → Int32) × (Nat → Nat → Int64)
def u1 (d : DD) (a i : Nat) (x : Int32) : DD := (fun b j => if b = a ∧ j = i then x else d.1 b j, d.2)
def u2 (d : DD) (a i : Nat) (x : Int64) : DD := (d.1, fun b j => if b = a ∧ j = i then x else d.2 b j)
abbrev XG : Type := va_G × (ClassId × ClassId × ClassId × ClassId) × (Nat → Nat)
def rn (α : Nat → Nat) : Value → Value
  | .ref a => .ref (α a)
  | v => v
def rnL (α : Nat → Nat) (q : Nat × Value) : Nat × Value := (q.1, rn α q.2)
def kd (o : Nat) : Nat := (sh_tbl.getD o (99, 0)).1
def ln (o : Nat) : Nat := (sh_tbl.getD o (99, 0)).2
def rf (o k : Nat) : Nat := (rf_tbl.getD o []).getD k 0
def fk (c : Nat) : List Nat := fk_tbl.getD c []
def NLb : Nat := 111
def fval (α : Nat → Nat) (d : DD) (o j : Nat) : Nat → Value
  | 1 => .long (d.2 o j)
  | 2 => .ref (α (rf o j))
  | _ => .int (d.1 o j)
def fvals (α : Nat → Nat) (d : DD) (o : Nat) : Nat → List Nat → List Value
  | _, [] => []
  | j, k :: ks => fval α d o j k :: fvals α d o (j + 1) ks
def cel (G : XG) (d : DD) (o : Nat) : va_E :=
  match kd o with
  | 0 => .inl (G.2.1.1, ln o, .inl (d.1 o))
  | 1 => .inl (G.2.1.2.1, ln o, .inr (.inl (d.2 o)))
  | 2 => .inl (G.2.1.2.2.1, ln o, .inl (d.1 o))
  | 3 => .inl (G.2.1.2.2.2, ln o, .inl (d.1 o))
  | c + 4 => .inr (c, fvals G.2.2 d o 0 (fk c))
def wsW (G : XG) (d : DD) : va_W := (List.range NLb).map fun o => (G.2.2 o, cel G d o)
def tysT (G : XG) : List (ClassId × FieldType) := [(G.2.1.1, .int), (G.2.1.2.1, .long), (G.2.1.2.2.1, .byte), (G.2.1.2.2.2, .boolean)]
theorem sh_len : sh_tbl.length = NLb := by decide +kernel
theorem kd_lt {o c : Nat} (h : kd o = c) (hc : c < 99) : o < NLb := by
  rcases Nat.lt_or_ge o NLb with q | q
  · exact q
  · exfalso
    have : kd o = 99 := by
      unfold kd
      rw [List.getD_eq_getElem?_getD, List.getElem?_eq_none (by rw [sh_len]; exact q)]
      rfl
    omega
theorem ws_at {G : XG} {d : DD} {o : Nat} (h : o < NLb) : (wsW G d)[o]? = some (G.2.2 o, cel G d o) := by
  unfold wsW
  rw [List.getElem?_map, List.getElem?_range h]
  rfl
theorem fvals_at (α : Nat → Nat) (d : DD) (o : Nat) : ∀ (ks : List Nat) (j i k : Nat), ks[i]? = some k → (fvals α d o j ks)[i]? = some (fval α d o (j + i) k)
  | [], _, _, _, h => by simp at h
  | _ :: _, j, 0, k, h => by
    simp at h
    subst h
    simp [fvals]
  | _ :: ks, j, i + 1, k, h => by
    have := fvals_at α d o ks (j + 1) i k (by simpa using h)
    simp only [fvals, List.getElem?_cons_succ]
    rw [this]
    congr 2
    omega
theorem fvals_len (α : Nat → Nat) (d : DD) (o : Nat) : ∀ (ks : List Nat) (j : Nat), (fvals α d o j ks).length = ks.length
  | [], _ => rfl
  | _ :: ks, j => by simp [fvals, fvals_len α d o ks (j + 1)]
theorem fval_congr {α : Nat → Nat} {d d' : DD} {o j k : Nat} (h1 : d'.1 o j = d.1 o j) (h2 : d'.2 o j = d.2 o j) : fval α d' o j k = fval α d o j k := by
  unfold fval
  split
  · rw [h2]
  · rfl
  · rw [h1]
theorem fvals_congr {α : Nat → Nat} {d d' : DD} {o : Nat} : ∀ (ks : List Nat) (j : Nat), (∀ i, d'.1 o i = d.1 o i) → (∀ i, d'.2 o i = d.2 o i) → fvals α d' o j ks = fvals α d o j ks
  | [], _, _, _ => rfl
  | k :: ks, j, h1, h2 => by
    simp only [fvals]
    rw [fval_congr (h1 j) (h2 j), fvals_congr ks (j + 1) h1 h2]
theorem cel_congr {G : XG} {d d' : DD} {o : Nat} (h1 : ∀ i, d'.1 o i = d.1 o i) (h2 : ∀ i, d'.2 o i = d.2 o i) : cel G d' o = cel G d o := by
  have e1 : d'.1 o = d.1 o := funext h1
  have e2 : d'.2 o = d.2 o := funext h2
  unfold cel
  split <;> first | rw [e1] | rw [e2] | rw [fvals_congr _ _ h1 h2]
theorem ws_set {G : XG} {d d' : DD} {o : Nat} (ho : o < NLb) (e : va_E) (he : cel G d' o = e) (hne : ∀ b, b ≠ o → cel G d' b = cel G d b) : (wsW G d).set o (G.2.2 o, e) = wsW G d' := by
  apply List.ext_getElem?
  intro i
  by_cases hi : i = o
  · subst hi
    rw [List.getElem?_set_self (by simp [wsW]; exact ho), ws_at ho, he]
  · rw [List.getElem?_set_ne (Ne.symm hi)]
    unfold wsW
    rw [List.getElem?_map, List.getElem?_map]
    cases h : (List.range NLb)[i]? with
    | none => rfl
    | some b =>
      have hb : b = i := by
        have := List.getElem?_eq_some_iff.mp h
        obtain ⟨h1, h2⟩ := this
        simpa using h2.symm
      subst hb
      show some (G.2.2 b, cel G d b) = some (G.2.2 b, cel G d' b)
      rw [hne b hi]
theorem u1_ne {d : DD} {a i b : Nat} {x : Int32} (h : b ≠ a) (j : Nat) : (u1 d a i x).1 b j = d.1 b j := by
  simp [u1, h]
theorem u2_ne {d : DD} {a i b : Nat} {x : Int64} (h : b ≠ a) (j : Nat) : (u2 d a i x).2 b j = d.2 b j := by
  simp [u2, h]
theorem u1_cel {G : XG} {d : DD} {a i b : Nat} {x : Int32} (h : b ≠ a) : cel G (u1 d a i x) b = cel G d b := cel_congr (u1_ne h) (fun _ => rfl)
theorem u2_cel {G : XG} {d : DD} {a i b : Nat} {x : Int64} (h : b ≠ a) : cel G (u2 d a i x) b = cel G d b := cel_congr (fun _ => rfl) (u2_ne h)
theorem u1_row (d : DD) (a i : Nat) (x : Int32) : (u1 d a i x).1 a = upd (d.1 a) i x := by
  funext j
  simp [u1, upd]
theorem u2_row (d : DD) (a i : Nat) (x : Int64) : (u2 d a i x).2 a = vp_updL (d.2 a) i x := by
  funext j
  simp [u2, vp_updL]
theorem cel_int {G : XG} {d : DD} {o : Nat} (h : kd o = 0) : cel G d o = .inl (G.2.1.1, ln o, .inl (d.1 o)) := by
  unfold cel
  rw [h]
theorem cel_long {G : XG} {d : DD} {o : Nat} (h : kd o = 1) : cel G d o = .inl (G.2.1.2.1, ln o, .inr (.inl (d.2 o))) := by
  unfold cel
  rw [h]
theorem cel_byte {G : XG} {d : DD} {o : Nat} (h : kd o = 2) : cel G d o = .inl (G.2.1.2.2.1, ln o, .inl (d.1 o)) := by
  unfold cel
  rw [h]
theorem cel_bool {G : XG} {d : DD} {o : Nat} (h : kd o = 3) : cel G d o = .inl (G.2.1.2.2.2, ln o, .inl (d.1 o)) := by
  unfold cel
  rw [h]
theorem cel_obj {G : XG} {d : DD} {o c : Nat} (h : kd o = c + 4) : cel G d o = .inr (c, fvals G.2.2 d o 0 (fk c)) := by
  unfold cel
  rw [h]
theorem fvals_set {α : Nat → Nat} {d d' : DD} {o : Nat} : ∀ (ks : List Nat) (j i k : Nat) (v : Value), ks[i]? = some k → fval α d' o (j + i) k = v → (∀ p, p ≠ j + i → d'.1 o p = d.1 o p) → (∀ p, p ≠ j + i → d'.2 o p = d.2 o p) → (fvals α d o j ks).set i v = fvals α d' o j ks
  | [], _, _, _, _, h, _, _, _ => by simp at h
  | q :: ks, j, 0, k, v, h, hv, h1, h2 => by
    simp at h
    subst h
    simp only [fvals, List.set_cons_zero]
    rw [show fval α d' o j q = v from hv]
    congr 1
    have aux : ∀ (ks : List Nat) (m : Nat), j < m → fvals α d o m ks = fvals α d' o m ks := by
      intro ks
      induction ks with
      | nil => intros; rfl
      | cons a l ih =>
        intro m hm
        simp only [fvals]
        rw [ih (m + 1) (by omega), fval_congr (h1 m (by omega)) (h2 m (by omega))]
    exact aux ks (j + 1) (by omega)
  | q :: ks, j, i + 1, k, v, h, hv, h1, h2 => by
    simp only [fvals, List.set_cons_succ]
    rw [fvals_set ks (j + 1) i k v (by simpa using h) (by rw [show j + 1 + i = j + (i + 1) by omega]; exact hv) (fun p hp => h1 p (by omega)) (fun p hp => h2 p (by omega)),
      fval_congr (h1 j (by omega)) (h2 j (by omega))]

-- THE STANDING FACTS OF A WALK
abbrev SI : Type := ByteArray × String × Nat × Option FieldType × Nat × Nat
abbrev MI : Type := MethodName × ByteArray × Nat × Option FieldType
abbrev XE : Type := Program × Launch × Env × Room × State × MethodId × Array Value × List Frame × Method × Code × (Nat → Prop) × XG
def NwL (q : String × Nat × MethodName × String) : Cond := .methodLinkNest q.1 q.2.1 q.2.2.1 q.2.2.2
def injL (α : Nat → Nat) : Prop := ∀ i j, i < NLb → j < NLb → α i = α j → i = j
def OK (E : XE) (si : SI) : Prop := match E with
  | (p, _, _, R, s, m, args, _, meth, c, A, G) => p.tables.exec = Jvm.exec ∧ c.code = si.1 ∧ s.vm.findClass si.2.1 = some m.cls ∧ c.maxLocals = si.2.2.1 ∧ meth.sig.returnType = si.2.2.2.1 ∧
    si.2.2.2.2.1 ≤ R.frames ∧ si.2.2.2.2.2 ≤ R.locals ∧ meth.locks = false ∧ (∀ w ∈ WS, w.before args s = true) ∧ (∀ q ∈ WN, va_Nw (NwL q) s) ∧ va_K G.1 vwCl (tysT G) s ∧ injL G.2.2 ∧ ∀ o, o < NLb → A (G.2.2 o)
def AW (E : XE) (si : SI) (cells slots : Nat) {ι : Type} (Qf : ι → State → Prop) (o : Option ι) (pc : Nat) (lv : List (Nat × Value)) (st : List Value) (d : DD) : Prop := match E with
  | (p, l, e, R, s, m, args, below, meth, c, A, G) => OK (p, l, e, R, s, m, args, below, meth, c, A, G) si → ∀ i, o = some i → ∀ (H : Heap) (locs : List Loc) (ls : Array Slot), va_P G.1 vwCl (wsW G d) H → va_S A s.heap H locs → lv_has ls si.2.2.1 (lv.map (rnL G.2.2)) →
    W p l e R s m args below meth c H locs cells slots (Qf i) (F0 m pc ls (st.map (rn G.2.2)))
theorem wsD {A : Nat → Prop} {G : XG} {d : DD} (hi : injL G.2.2) (hA : ∀ o, o < NLb → A (G.2.2 o)) : va_D A (wsW G d) := by
  have key : ∀ (k : Nat) (q : Nat × va_E), (wsW G d)[k]? = some q → k < NLb ∧ q.1 = G.2.2 k := by
    intro k q h
    have hk : k < NLb := by
      rcases Nat.lt_or_ge k NLb with z | z
      · exact z
      · rw [List.getElem?_eq_none (by simp [wsW]; exact z)] at h
        cases h
    rw [ws_at hk] at h
    exact ⟨hk, by rw [← Option.some.inj h]⟩
  refine ⟨fun i j p q hp hq e => ?_, fun k q h => ?_⟩
  · obtain ⟨a1, a2⟩ := key i p hp
    obtain ⟨b1, b2⟩ := key j q hq
    exact hi i j a1 b1 (by rw [← a2, ← b2]; exact e)
  · obtain ⟨a1, a2⟩ := key k q h
    rw [a2]
    exact hA k a1
theorem lvm {lv : List (Nat × Value)} {α : Nat → Nat} {k i : Nat} {v : Value} (h : lv[k]? = some (i, v)) : (lv.map (rnL α))[k]? = some (i, rn α v) := by
  rw [List.getElem?_map, h]
  rfl
section AV
variable {E : XE} {si : SI} {cells slots : Nat} {ι : Type} {Qf : ι → State → Prop} {o o1 o2 : Option ι} {pc : Nat} {lv lv' : List (Nat × Value)} {st : List Value} {d : DD}
theorem r_none : AW E si cells slots Qf none pc lv st d := by
  obtain ⟨p, l, e, R, s, m, args, below, meth, c, A, G⟩ := E
  intro _ i h
  cases h
/-- only looks at o's value -/
theorem r_if {c : Prop} [Decidable c] (h1 : c → AW E si cells slots Qf o1 pc lv st d) (h2 : ¬ c → AW E si cells slots Qf o2 pc lv st d) : AW E si cells slots Qf (if c then o1 else o2) pc lv st d := by
  by_cases h : c
  · rw [if_pos h]
    exact h1 h
  · rw [if_neg h]
    exact h2 h
theorem r_guard {c : Prop} [Decidable c] (h1 : c → AW E si cells slots Qf o pc lv st d) : AW E si cells slots Qf (if c then o else none) pc lv st d := r_if h1 (fun _ => r_none)
/-- locals forgotten, or in another order -/
theorem r_sub (ks : List Nat) (hl : lv_pick lv ks = lv') (h : AW E si cells slots Qf o pc lv' st d) : AW E si cells slots Qf o pc lv st d := by
  obtain ⟨p, l, e, R, s, m, args, below, meth, c, A, G⟩ := E
  intro hok i hi H locs ls hP hS hv
  refine h hok i hi H locs ls hP hS (lv_sub hv ks ?_)
  rw [← hl]
  unfold lv_pick
  rw [List.map_filterMap]
  congr 1
  funext k
  simp
theorem r_iconst {n : Int} {v : Int32} (hd : decode si.1 pc = .ok (.iconst n, 1)) (hv : Int32.ofInt n = v) (h : AW E si cells slots Qf o (pc + 1) lv (.int v :: st) d) : AW E si cells slots Qf o pc lv st d := by
  obtain ⟨p, l, e, R, s, m, args, below, meth, c, A, G⟩ := E
  intro hok i hi H locs ls hP hS hl
  exact lv_iconst hok.1 hok.2.1 hd hv (h hok i hi H locs ls hP hS hl)
theorem r_bipush {n : Int} {v : Int32} (hd : decode si.1 pc = .ok (.bipush n, 2)) (hv : (Int8.ofInt n).toInt32 = v) (h : AW E si cells slots Qf o (pc + 2) lv (.int v :: st) d) : AW E si cells slots Qf o pc lv st d := by
  obtain ⟨p, l, e, R, s, m, args, below, meth, c, A, G⟩ := E
  intro hok i hi H locs ls hP hS hl
  exact lv_bipush hok.1 hok.2.1 hd hv (h hok i hi H locs ls hP hS hl)
theorem r_sipush {n : Int} {v : Int32} (hd : decode si.1 pc = .ok (.sipush n, 3)) (hv : (Int16.ofInt n).toInt32 = v) (h : AW E si cells slots Qf o (pc + 3) lv (.int v :: st) d) : AW E si cells slots Qf o pc lv st d := by
  obtain ⟨p, l, e, R, s, m, args, below, meth, c, A, G⟩ := E
  intro hok i hi H locs ls hP hS hl
  exact lv_sipush hok.1 hok.2.1 hd hv (h hok i hi H locs ls hP hS hl)
theorem r_lconst {n : Fin 2} {v : Int64} (hd : decode si.1 pc = .ok (.lconst n, 1)) (hv : Int64.ofNat (n : Nat) = v) (h : AW E si cells slots Qf o (pc + 1) lv (.long v :: st) d) : AW E si cells slots Qf o pc lv st d := by
  obtain ⟨p, l, e, R, s, m, args, below, meth, c, A, G⟩ := E
  intro hok i hi H locs ls hP hS hl
  exact lv_lconst hok.1 hok.2.1 hd hv (h hok i hi H locs ls hP hS hl)
theorem r_ldc2 {index : Nat} {v : Int64} (hd : decode si.1 pc = .ok (.ldc2_w index, 3)) (hc : Cond.constantLong si.2.1 index v ∈ WS) (h : AW E si cells slots Qf o (pc + 3) lv (.long v :: st) d) : AW E si cells slots Qf o pc lv st d := by
  obtain ⟨p, l, e, R, s, m, args, below, meth, c, A, G⟩ := E
  intro hok i hi H locs ls hP hS hl
  exact lv_ldc2 hok.1 hok.2.1 hok.2.2.1 (hok.2.2.2.2.2.2.2.2.1 _ hc) hd (h hok i hi H locs ls hP hS hl)
theorem r_ldcw {index : Nat} {v : Int32} (hd : decode si.1 pc = .ok (.ldc_w index, 3)) (hc : Cond.constant si.2.1 index v ∈ WS) (h : AW E si cells slots Qf o (pc + 3) lv (.int v :: st) d) : AW E si cells slots Qf o pc lv st d := by
  obtain ⟨p, l, e, R, s, m, args, below, meth, c, A, G⟩ := E
  intro hok i hi H locs ls hP hS hl
  exact lv_ldcw hok.1 hok.2.1 hok.2.2.1 (hok.2.2.2.2.2.2.2.2.1 _ hc) hd (h hok i hi H locs ls hP hS hl)
theorem r_iadd {x y : Int32} (hd : decode si.1 pc = .ok (.iadd, 1)) (h : AW E si cells slots Qf o (pc + 1) lv (.int (x + y) :: st) d) : AW E si cells slots Qf o pc lv (.int y :: .int x :: st) d := by
  obtain ⟨p, l, e, R, s, m, args, below, meth, c, A, G⟩ := E
  intro hok i hi H locs ls hP hS hl
  exact lv_iadd hok.1 hok.2.1 hd (h hok i hi H locs ls hP hS hl)
theorem r_isub {x y : Int32} (hd : decode si.1 pc = .ok (.isub, 1)) (h : AW E si cells slots Qf o (pc + 1) lv (.int (x - y) :: st) d) : AW E si cells slots Qf o pc lv (.int y :: .int x :: st) d := by
  obtain ⟨p, l, e, R, s, m, args, below, meth, c, A, G⟩ := E
  intro hok i hi H locs ls hP hS hl
  exact lv_isub hok.1 hok.2.1 hd (h hok i hi H locs ls hP hS hl)
theorem r_imul {x y : Int32} (hd : decode si.1 pc = .ok (.imul, 1)) (h : AW E si cells slots Qf o (pc + 1) lv (.int (x * y) :: st) d) : AW E si cells slots Qf o pc lv (.int y :: .int x :: st) d := by
  obtain ⟨p, l, e, R, s, m, args, below, meth, c, A, G⟩ := E
  intro hok i hi H locs ls hP hS hl
  exact lv_imul hok.1 hok.2.1 hd (h hok i hi H locs ls hP hS hl)
theorem r_iand {x y : Int32} (hd : decode si.1 pc = .ok (.iand, 1)) (h : AW E si cells slots Qf o (pc + 1) lv (.int (x &&& y) :: st) d) : AW E si cells slots Qf o pc lv (.int y :: .int x :: st) d := by
  obtain ⟨p, l, e, R, s, m, args, below, meth, c, A, G⟩ := E
  intro hok i hi H locs ls hP hS hl
  exact lv_iand hok.1 hok.2.1 hd (h hok i hi H locs ls hP hS hl)
theorem r_ior {x y : Int32} (hd : decode si.1 pc = .ok (.ior, 1)) (h : AW E si cells slots Qf o (pc + 1) lv (.int (x ||| y) :: st) d) : AW E si cells slots Qf o pc lv (.int y :: .int x :: st) d := by
  obtain ⟨p, l, e, R, s, m, args, below, meth, c, A, G⟩ := E
  intro hok i hi H locs ls hP hS hl
  exact lv_ior hok.1 hok.2.1 hd (h hok i hi H locs ls hP hS hl)
theorem r_ixor {x y : Int32} (hd : decode si.1 pc = .ok (.ixor, 1)) (h : AW E si cells slots Qf o (pc + 1) lv (.int (x ^^^ y) :: st) d) : AW E si cells slots Qf o pc lv (.int y :: .int x :: st) d := by
  obtain ⟨p, l, e, R, s, m, args, below, meth, c, A, G⟩ := E
  intro hok i hi H locs ls hP hS hl
  exact lv_ixor hok.1 hok.2.1 hd (h hok i hi H locs ls hP hS hl)
theorem r_ishl {x y : Int32} (hd : decode si.1 pc = .ok (.ishl, 1)) (h : AW E si cells slots Qf o (pc + 1) lv (.int (x <<< (y &&& 31)) :: st) d) : AW E si cells slots Qf o pc lv (.int y :: .int x :: st) d := by
  obtain ⟨p, l, e, R, s, m, args, below, meth, c, A, G⟩ := E
  intro hok i hi H locs ls hP hS hl
  exact lv_ishl hok.1 hok.2.1 hd (h hok i hi H locs ls hP hS hl)
theorem r_ishr {x y : Int32} (hd : decode si.1 pc = .ok (.ishr, 1)) (h : AW E si cells slots Qf o (pc + 1) lv (.int (x >>> (y &&& 31)) :: st) d) : AW E si cells slots Qf o pc lv (.int y :: .int x :: st) d := by
  obtain ⟨p, l, e, R, s, m, args, below, meth, c, A, G⟩ := E
  intro hok i hi H locs ls hP hS hl
  exact lv_ishr hok.1 hok.2.1 hd (h hok i hi H locs ls hP hS hl)
def iushr (x y : Int32) : Int32 := (x.toUInt32 >>> (y.toUInt32 &&& Int32.toUInt32 31)).toInt32
def lushr (x : Int64) (y : Int32) : Int64 := (x.toUInt64 >>> (y.toInt64.toUInt64 &&& Int64.toUInt64 63)).toInt64
theorem r_iushr {x y : Int32} (hd : decode si.1 pc = .ok (.iushr, 1)) (h : AW E si cells slots Qf o (pc + 1) lv (.int (iushr x y) :: st) d) : AW E si cells slots Qf o pc lv (.int y :: .int x :: st) d := by
  obtain ⟨p, l, e, R, s, m, args, below, meth, c, A, G⟩ := E
  intro hok i hi H locs ls hP hS hl
  exact lv_iushr hok.1 hok.2.1 hd rfl (h hok i hi H locs ls hP hS hl)
theorem r_lushr {x : Int64} {y : Int32} (hd : decode si.1 pc = .ok (.lushr, 1)) (h : AW E si cells slots Qf o (pc + 1) lv (.long (lushr x y) :: st) d) : AW E si cells slots Qf o pc lv (.int y :: .long x :: st) d := by
  obtain ⟨p, l, e, R, s, m, args, below, meth, c, A, G⟩ := E
  intro hok i hi H locs ls hP hS hl
  exact lv_lushr hok.1 hok.2.1 hd rfl (h hok i hi H locs ls hP hS hl)
theorem r_lshl {x : Int64} {y : Int32} (hd : decode si.1 pc = .ok (.lshl, 1)) (h : AW E si cells slots Qf o (pc + 1) lv (.long (x <<< (y.toInt64 &&& 63)) :: st) d) : AW E si cells slots Qf o pc lv (.int y :: .long x :: st) d := by
  obtain ⟨p, l, e, R, s, m, args, below, meth, c, A, G⟩ := E
  intro hok i hi H locs ls hP hS hl
  exact lv_lshl hok.1 hok.2.1 hd rfl (h hok i hi H locs ls hP hS hl)
theorem r_lshr {x : Int64} {y : Int32} (hd : decode si.1 pc = .ok (.lshr, 1)) (h : AW E si cells slots Qf o (pc + 1) lv (.long (x >>> (y.toInt64 &&& 63)) :: st) d) : AW E si cells slots Qf o pc lv (.int y :: .long x :: st) d := by
  obtain ⟨p, l, e, R, s, m, args, below, meth, c, A, G⟩ := E
  intro hok i hi H locs ls hP hS hl
  exact lv_lshr hok.1 hok.2.1 hd rfl (h hok i hi H locs ls hP hS hl)
theorem r_idiv {x y : Int32} (hd : decode si.1 pc = .ok (.idiv, 1)) (hy : ¬ y = 0) (h : AW E si cells slots Qf o (pc + 1) lv (.int (x / y) :: st) d) : AW E si cells slots Qf o pc lv (.int y :: .int x :: st) d := by
  obtain ⟨p, l, e, R, s, m, args, below, meth, c, A, G⟩ := E
  intro hok i hi H locs ls hP hS hl
  exact lv_idiv hok.1 hok.2.1 hd hy (h hok i hi H locs ls hP hS hl)
theorem r_irem {x y : Int32} (hd : decode si.1 pc = .ok (.irem, 1)) (hy : ¬ y = 0) (h : AW E si cells slots Qf o (pc + 1) lv (.int (x - x / y * y) :: st) d) : AW E si cells slots Qf o pc lv (.int y :: .int x :: st) d := by
  obtain ⟨p, l, e, R, s, m, args, below, meth, c, A, G⟩ := E
  intro hok i hi H locs ls hP hS hl
  exact lv_irem hok.1 hok.2.1 hd hy (h hok i hi H locs ls hP hS hl)
theorem r_ladd {x y : Int64} (hd : decode si.1 pc = .ok (.ladd, 1)) (h : AW E si cells slots Qf o (pc + 1) lv (.long (x + y) :: st) d) : AW E si cells slots Qf o pc lv (.long y :: .long x :: st) d := by
  obtain ⟨p, l, e, R, s, m, args, below, meth, c, A, G⟩ := E
  intro hok i hi H locs ls hP hS hl
  exact lv_ladd hok.1 hok.2.1 hd (h hok i hi H locs ls hP hS hl)
theorem r_lsub {x y : Int64} (hd : decode si.1 pc = .ok (.lsub, 1)) (h : AW E si cells slots Qf o (pc + 1) lv (.long (x - y) :: st) d) : AW E si cells slots Qf o pc lv (.long y :: .long x :: st) d := by
  obtain ⟨p, l, e, R, s, m, args, below, meth, c, A, G⟩ := E
  intro hok i hi H locs ls hP hS hl
  exact lv_lsub hok.1 hok.2.1 hd (h hok i hi H locs ls hP hS hl)
theorem r_lmul {x y : Int64} (hd : decode si.1 pc = .ok (.lmul, 1)) (h : AW E si cells slots Qf o (pc + 1) lv (.long (x * y) :: st) d) : AW E si cells slots Qf o pc lv (.long y :: .long x :: st) d := by
  obtain ⟨p, l, e, R, s, m, args, below, meth, c, A, G⟩ := E
  intro hok i hi H locs ls hP hS hl
  exact lv_lmul hok.1 hok.2.1 hd (h hok i hi H locs ls hP hS hl)
theorem r_land {x y : Int64} (hd : decode si.1 pc = .ok (.land, 1)) (h : AW E si cells slots Qf o (pc + 1) lv (.long (x &&& y) :: st) d) : AW E si cells slots Qf o pc lv (.long y :: .long x :: st) d := by
  obtain ⟨p, l, e, R, s, m, args, below, meth, c, A, G⟩ := E
  intro hok i hi H locs ls hP hS hl
  exact lv_land hok.1 hok.2.1 hd (h hok i hi H locs ls hP hS hl)
theorem r_lor {x y : Int64} (hd : decode si.1 pc = .ok (.lor, 1)) (h : AW E si cells slots Qf o (pc + 1) lv (.long (x ||| y) :: st) d) : AW E si cells slots Qf o pc lv (.long y :: .long x :: st) d := by
  obtain ⟨p, l, e, R, s, m, args, below, meth, c, A, G⟩ := E
  intro hok i hi H locs ls hP hS hl
  exact lv_lor hok.1 hok.2.1 hd (h hok i hi H locs ls hP hS hl)
theorem r_lxor {x y : Int64} (hd : decode si.1 pc = .ok (.lxor, 1)) (h : AW E si cells slots Qf o (pc + 1) lv (.long (x ^^^ y) :: st) d) : AW E si cells slots Qf o pc lv (.long y :: .long x :: st) d := by
  obtain ⟨p, l, e, R, s, m, args, below, meth, c, A, G⟩ := E
  intro hok i hi H locs ls hP hS hl
  exact lv_lxor hok.1 hok.2.1 hd (h hok i hi H locs ls hP hS hl)
theorem r_ldiv {x y : Int64} (hd : decode si.1 pc = .ok (.ldiv, 1)) (hy : ¬ y = 0) (h : AW E si cells slots Qf o (pc + 1) lv (.long (x / y) :: st) d) : AW E si cells slots Qf o pc lv (.long y :: .long x :: st) d := by
  obtain ⟨p, l, e, R, s, m, args, below, meth, c, A, G⟩ := E
  intro hok i hi H locs ls hP hS hl
  exact lv_ldiv hok.1 hok.2.1 hd hy (h hok i hi H locs ls hP hS hl)
theorem r_lrem {x y : Int64} (hd : decode si.1 pc = .ok (.lrem, 1)) (hy : ¬ y = 0) (h : AW E si cells slots Qf o (pc + 1) lv (.long (x - x / y * y) :: st) d) : AW E si cells slots Qf o pc lv (.long y :: .long x :: st) d := by
  obtain ⟨p, l, e, R, s, m, args, below, meth, c, A, G⟩ := E
  intro hok i hi H locs ls hP hS hl
  exact lv_lrem hok.1 hok.2.1 hd hy (h hok i hi H locs ls hP hS hl)
theorem r_i2l {x : Int32} (hd : decode si.1 pc = .ok (.i2l, 1)) (h : AW E si cells slots Qf o (pc + 1) lv (.long x.toInt64 :: st) d) : AW E si cells slots Qf o pc lv (.int x :: st) d := by
  obtain ⟨p, l, e, R, s, m, args, below, meth, c, A, G⟩ := E
  intro hok i hi H locs ls hP hS hl
  exact lv_i2l hok.1 hok.2.1 hd rfl (h hok i hi H locs ls hP hS hl)
theorem r_l2i {x : Int64} (hd : decode si.1 pc = .ok (.l2i, 1)) (h : AW E si cells slots Qf o (pc + 1) lv (.int x.toInt32 :: st) d) : AW E si cells slots Qf o pc lv (.long x :: st) d := by
  obtain ⟨p, l, e, R, s, m, args, below, meth, c, A, G⟩ := E
  intro hok i hi H locs ls hP hS hl
  exact lv_l2i hok.1 hok.2.1 hd rfl (h hok i hi H locs ls hP hS hl)
theorem r_i2b {x : Int32} (hd : decode si.1 pc = .ok (.i2b, 1)) (h : AW E si cells slots Qf o (pc + 1) lv (.int x.toInt8.toInt32 :: st) d) : AW E si cells slots Qf o pc lv (.int x :: st) d := by
  obtain ⟨p, l, e, R, s, m, args, below, meth, c, A, G⟩ := E
  intro hok i hi H locs ls hP hS hl
  exact lv_i2b hok.1 hok.2.1 hd rfl (h hok i hi H locs ls hP hS hl)
theorem r_dupi {x : Int32} (hd : decode si.1 pc = .ok (.dup, 1)) (h : AW E si cells slots Qf o (pc + 1) lv (.int x :: .int x :: st) d) : AW E si cells slots Qf o pc lv (.int x :: st) d := by
  obtain ⟨p, l, e, R, s, m, args, below, meth, c, A, G⟩ := E
  intro hok i hi H locs ls hP hS hl
  exact lv_dup hok.1 hok.2.1 hd rfl (h hok i hi H locs ls hP hS hl)
theorem r_popi {x : Int32} (hd : decode si.1 pc = .ok (.pop, 1)) (h : AW E si cells slots Qf o (pc + 1) lv st d) : AW E si cells slots Qf o pc lv (.int x :: st) d := by
  obtain ⟨p, l, e, R, s, m, args, below, meth, c, A, G⟩ := E
  intro hok i hi H locs ls hP hS hl
  exact lv_pop hok.1 hok.2.1 hd rfl (h hok i hi H locs ls hP hS hl)
theorem r_dupa {x : Nat} (hd : decode si.1 pc = .ok (.dup, 1)) (h : AW E si cells slots Qf o (pc + 1) lv (.ref x :: .ref x :: st) d) : AW E si cells slots Qf o pc lv (.ref x :: st) d := by
  obtain ⟨p, l, e, R, s, m, args, below, meth, c, A, G⟩ := E
  intro hok i hi H locs ls hP hS hl
  exact lv_dup hok.1 hok.2.1 hd rfl (h hok i hi H locs ls hP hS hl)
theorem r_popa {x : Nat} (hd : decode si.1 pc = .ok (.pop, 1)) (h : AW E si cells slots Qf o (pc + 1) lv st d) : AW E si cells slots Qf o pc lv (.ref x :: st) d := by
  obtain ⟨p, l, e, R, s, m, args, below, meth, c, A, G⟩ := E
  intro hok i hi H locs ls hP hS hl
  exact lv_pop hok.1 hok.2.1 hd rfl (h hok i hi H locs ls hP hS hl)
theorem r_dup2ia {x : Int32} {a : Nat} (hd : decode si.1 pc = .ok (.dup2, 1)) (h : AW E si cells slots Qf o (pc + 1) lv (.int x :: .ref a :: .int x :: .ref a :: st) d) : AW E si cells slots Qf o pc lv (.int x :: .ref a :: st) d := by
  obtain ⟨p, l, e, R, s, m, args, below, meth, c, A, G⟩ := E
  intro hok i hi H locs ls hP hS hl
  exact lv_dup2_11 hok.1 hok.2.1 hd rfl rfl (h hok i hi H locs ls hP hS hl)
theorem r_icmp_eq {x y : Int32} {off : Int} {tgt : Nat} {oT oN : Option ι} (hd : decode si.1 pc = .ok (.if_icmp .eq off, 3)) (ht : (pc : Int) + off = (tgt : Int)) (hT : AW E si cells slots Qf oT tgt lv st d) (hN : AW E si cells slots Qf oN (pc + 3) lv st d) : AW E si cells slots Qf (if x = y then oT else oN) pc lv (.int y :: .int x :: st) d := by
  obtain ⟨p, l, e, R, s, m, args, below, meth, c, A, G⟩ := E
  intro hok i hi H locs ls hP hS hl
  refine lv_icmp_eq hok.1 hok.2.1 hd ht (fun q => ?_) (fun q => ?_)
  · refine hT hok i ?_ H locs ls hP hS hl
    rw [if_pos q] at hi
    exact hi
  · refine hN hok i ?_ H locs ls hP hS hl
    rw [if_neg q] at hi
    exact hi
theorem r_icmp_ne {x y : Int32} {off : Int} {tgt : Nat} {oT oN : Option ι} (hd : decode si.1 pc = .ok (.if_icmp .ne off, 3)) (ht : (pc : Int) + off = (tgt : Int)) (hT : AW E si cells slots Qf oT tgt lv st d) (hN : AW E si cells slots Qf oN (pc + 3) lv st d) : AW E si cells slots Qf (if x = y then oN else oT) pc lv (.int y :: .int x :: st) d := by
  obtain ⟨p, l, e, R, s, m, args, below, meth, c, A, G⟩ := E
  intro hok i hi H locs ls hP hS hl
  refine lv_icmp_ne hok.1 hok.2.1 hd ht (fun q => ?_) (fun q => ?_)
  · refine hT hok i ?_ H locs ls hP hS hl
    rw [if_neg q] at hi
    exact hi
  · refine hN hok i ?_ H locs ls hP hS hl
    rw [if_pos q] at hi
    exact hi
theorem r_icmp_lt {x y : Int32} {off : Int} {tgt : Nat} {oT oN : Option ι} (hd : decode si.1 pc = .ok (.if_icmp .lt off, 3)) (ht : (pc : Int) + off = (tgt : Int)) (hT : AW E si cells slots Qf oT tgt lv st d) (hN : AW E si cells slots Qf oN (pc + 3) lv st d) : AW E si cells slots Qf (if x < y then oT else oN) pc lv (.int y :: .int x :: st) d := by
  obtain ⟨p, l, e, R, s, m, args, below, meth, c, A, G⟩ := E
  intro hok i hi H locs ls hP hS hl
  refine lv_icmp_lt hok.1 hok.2.1 hd ht (fun q => ?_) (fun q => ?_)
  · refine hT hok i ?_ H locs ls hP hS hl
    rw [if_pos q] at hi
    exact hi
  · refine hN hok i ?_ H locs ls hP hS hl
    rw [if_neg q] at hi
    exact hi
theorem r_icmp_ge {x y : Int32} {off : Int} {tgt : Nat} {oT oN : Option ι} (hd : decode si.1 pc = .ok (.if_icmp .ge off, 3)) (ht : (pc : Int) + off = (tgt : Int)) (hT : AW E si cells slots Qf oT tgt lv st d) (hN : AW E si cells slots Qf oN (pc + 3) lv st d) : AW E si cells slots Qf (if x < y then oN else oT) pc lv (.int y :: .int x :: st) d := by
  obtain ⟨p, l, e, R, s, m, args, below, meth, c, A, G⟩ := E
  intro hok i hi H locs ls hP hS hl
  refine lv_icmp_ge hok.1 hok.2.1 hd ht (fun q => ?_) (fun q => ?_)
  · refine hT hok i ?_ H locs ls hP hS hl
    rw [if_neg (k2_nlt q)] at hi
    exact hi
  · refine hN hok i ?_ H locs ls hP hS hl
    rw [if_pos (k2_lt q)] at hi
    exact hi
theorem r_icmp_gt {x y : Int32} {off : Int} {tgt : Nat} {oT oN : Option ι} (hd : decode si.1 pc = .ok (.if_icmp .gt off, 3)) (ht : (pc : Int) + off = (tgt : Int)) (hT : AW E si cells slots Qf oT tgt lv st d) (hN : AW E si cells slots Qf oN (pc + 3) lv st d) : AW E si cells slots Qf (if y < x then oT else oN) pc lv (.int y :: .int x :: st) d := by
  obtain ⟨p, l, e, R, s, m, args, below, meth, c, A, G⟩ := E
  intro hok i hi H locs ls hP hS hl
  refine lv_icmp_gt hok.1 hok.2.1 hd ht (fun q => ?_) (fun q => ?_)
  · refine hT hok i ?_ H locs ls hP hS hl
    rw [if_pos q] at hi
    exact hi
  · refine hN hok i ?_ H locs ls hP hS hl
    rw [if_neg q] at hi
    exact hi
theorem r_icmp_le {x y : Int32} {off : Int} {tgt : Nat} {oT oN : Option ι} (hd : decode si.1 pc = .ok (.if_icmp .le off, 3)) (ht : (pc : Int) + off = (tgt : Int)) (hT : AW E si cells slots Qf oT tgt lv st d) (hN : AW E si cells slots Qf oN (pc + 3) lv st d) : AW E si cells slots Qf (if y < x then oN else oT) pc lv (.int y :: .int x :: st) d := by
  obtain ⟨p, l, e, R, s, m, args, below, meth, c, A, G⟩ := E
  intro hok i hi H locs ls hP hS hl
  refine lv_icmp_le hok.1 hok.2.1 hd ht (fun q => ?_) (fun q => ?_)
  · refine hT hok i ?_ H locs ls hP hS hl
    rw [if_neg (k2_nlt q)] at hi
    exact hi
  · refine hN hok i ?_ H locs ls hP hS hl
    rw [if_pos (k2_lt q)] at hi
    exact hi
theorem r_if_eq {x : Int32} {off : Int} {tgt : Nat} {oT oN : Option ι} (hd : decode si.1 pc = .ok (.ifCond .eq off, 3)) (ht : (pc : Int) + off = (tgt : Int)) (hT : AW E si cells slots Qf oT tgt lv st d) (hN : AW E si cells slots Qf oN (pc + 3) lv st d) : AW E si cells slots Qf (if x = 0 then oT else oN) pc lv (.int x :: st) d := by
  obtain ⟨p, l, e, R, s, m, args, below, meth, c, A, G⟩ := E
  intro hok i hi H locs ls hP hS hl
  refine lv_if_eq hok.1 hok.2.1 hd ht (fun q => ?_) (fun q => ?_)
  · refine hT hok i ?_ H locs ls hP hS hl
    rw [if_pos q] at hi
    exact hi
  · refine hN hok i ?_ H locs ls hP hS hl
    rw [if_neg q] at hi
    exact hi
theorem r_if_ne {x : Int32} {off : Int} {tgt : Nat} {oT oN : Option ι} (hd : decode si.1 pc = .ok (.ifCond .ne off, 3)) (ht : (pc : Int) + off = (tgt : Int)) (hT : AW E si cells slots Qf oT tgt lv st d) (hN : AW E si cells slots Qf oN (pc + 3) lv st d) : AW E si cells slots Qf (if x = 0 then oN else oT) pc lv (.int x :: st) d := by
  obtain ⟨p, l, e, R, s, m, args, below, meth, c, A, G⟩ := E
  intro hok i hi H locs ls hP hS hl
  refine lv_if_ne hok.1 hok.2.1 hd ht (fun q => ?_) (fun q => ?_)
  · refine hT hok i ?_ H locs ls hP hS hl
    rw [if_neg q] at hi
    exact hi
  · refine hN hok i ?_ H locs ls hP hS hl
    rw [if_pos q] at hi
    exact hi
theorem r_if_lt {x : Int32} {off : Int} {tgt : Nat} {oT oN : Option ι} (hd : decode si.1 pc = .ok (.ifCond .lt off, 3)) (ht : (pc : Int) + off = (tgt : Int)) (hT : AW E si cells slots Qf oT tgt lv st d) (hN : AW E si cells slots Qf oN (pc + 3) lv st d) : AW E si cells slots Qf (if x < 0 then oT else oN) pc lv (.int x :: st) d := by
  obtain ⟨p, l, e, R, s, m, args, below, meth, c, A, G⟩ := E
  intro hok i hi H locs ls hP hS hl
  refine lv_if_lt hok.1 hok.2.1 hd ht (fun q => ?_) (fun q => ?_)
  · refine hT hok i ?_ H locs ls hP hS hl
    rw [if_pos q] at hi
    exact hi
  · refine hN hok i ?_ H locs ls hP hS hl
    rw [if_neg q] at hi
    exact hi
theorem r_if_ge {x : Int32} {off : Int} {tgt : Nat} {oT oN : Option ι} (hd : decode si.1 pc = .ok (.ifCond .ge off, 3)) (ht : (pc : Int) + off = (tgt : Int)) (hT : AW E si cells slots Qf oT tgt lv st d) (hN : AW E si cells slots Qf oN (pc + 3) lv st d) : AW E si cells slots Qf (if x < 0 then oN else oT) pc lv (.int x :: st) d := by
  obtain ⟨p, l, e, R, s, m, args, below, meth, c, A, G⟩ := E
  intro hok i hi H locs ls hP hS hl
  refine lv_if_ge hok.1 hok.2.1 hd ht (fun q => ?_) (fun q => ?_)
  · refine hT hok i ?_ H locs ls hP hS hl
    rw [if_neg (k2_nlt q)] at hi
    exact hi
  · refine hN hok i ?_ H locs ls hP hS hl
    rw [if_pos (k2_lt q)] at hi
    exact hi
theorem r_if_gt {x : Int32} {off : Int} {tgt : Nat} {oT oN : Option ι} (hd : decode si.1 pc = .ok (.ifCond .gt off, 3)) (ht : (pc : Int) + off = (tgt : Int)) (hT : AW E si cells slots Qf oT tgt lv st d) (hN : AW E si cells slots Qf oN (pc + 3) lv st d) : AW E si cells slots Qf (if 0 < x then oT else oN) pc lv (.int x :: st) d := by
  obtain ⟨p, l, e, R, s, m, args, below, meth, c, A, G⟩ := E
  intro hok i hi H locs ls hP hS hl
  refine lv_if_gt hok.1 hok.2.1 hd ht (fun q => ?_) (fun q => ?_)
  · refine hT hok i ?_ H locs ls hP hS hl
    rw [if_pos q] at hi
    exact hi
  · refine hN hok i ?_ H locs ls hP hS hl
    rw [if_neg q] at hi
    exact hi
theorem r_if_le {x : Int32} {off : Int} {tgt : Nat} {oT oN : Option ι} (hd : decode si.1 pc = .ok (.ifCond .le off, 3)) (ht : (pc : Int) + off = (tgt : Int)) (hT : AW E si cells slots Qf oT tgt lv st d) (hN : AW E si cells slots Qf oN (pc + 3) lv st d) : AW E si cells slots Qf (if 0 < x then oN else oT) pc lv (.int x :: st) d := by
  obtain ⟨p, l, e, R, s, m, args, below, meth, c, A, G⟩ := E
  intro hok i hi H locs ls hP hS hl
  refine lv_if_le hok.1 hok.2.1 hd ht (fun q => ?_) (fun q => ?_)
  · refine hT hok i ?_ H locs ls hP hS hl
    rw [if_neg (k2_nlt q)] at hi
    exact hi
  · refine hN hok i ?_ H locs ls hP hS hl
    rw [if_pos (k2_lt q)] at hi
    exact hi
theorem lg_eq {x y : Int64} : lg_cmp x y = 0 ↔ x = y := by
  unfold lg_cmp
  by_cases h1 : x > y
  · rw [if_pos h1]
    refine ⟨fun h => absurd h (by decide), fun h => ?_⟩
    subst h
    exact absurd h1 (by simp [Int64.lt_iff_toInt_lt])
  · rw [if_neg h1]
    by_cases h2 : x = y
    · simp [h2]
    · rw [if_neg h2]
      exact ⟨fun h => absurd h (by decide), fun h => absurd h h2⟩
theorem lg_lt {x y : Int64} : lg_cmp x y < 0 ↔ x < y := by
  unfold lg_cmp
  by_cases h1 : x > y
  · rw [if_pos h1]
    refine ⟨fun h => absurd h (by decide), fun h => ?_⟩
    simp only [gt_iff_lt, Int64.lt_iff_toInt_lt] at h h1
    omega
  · rw [if_neg h1]
    by_cases h2 : x = y
    · subst h2
      rw [if_pos rfl]
      exact ⟨fun h => absurd h (by decide), fun h => absurd h h1⟩
    · rw [if_neg h2]
      refine ⟨fun _ => ?_, fun _ => by decide⟩
      have h3 : ¬ x.toInt = y.toInt := fun q => h2 (Int64.toInt_inj.mp q)
      simp only [gt_iff_lt, Int64.lt_iff_toInt_lt] at h1 ⊢
      omega
theorem lg_gt {x y : Int64} : 0 < lg_cmp x y ↔ y < x := by
  unfold lg_cmp
  by_cases h1 : x > y
  · rw [if_pos h1]
    exact ⟨fun _ => h1, fun _ => by decide⟩
  · rw [if_neg h1]
    by_cases h2 : x = y
    · subst h2
      rw [if_pos rfl]
      exact ⟨fun h => absurd h (by decide), fun h => absurd h h1⟩
    · rw [if_neg h2]
      exact ⟨fun h => absurd h (by decide), fun h => absurd h h1⟩
theorem r_lcmp {x y : Int64} (hd : decode si.1 pc = .ok (.lcmp, 1)) (h : AW E si cells slots Qf o (pc + 1) lv (.int (lg_cmp x y) :: st) d) : AW E si cells slots Qf o pc lv (.long y :: .long x :: st) d := by
  obtain ⟨p, l, e, R, s, m, args, below, meth, c, A, G⟩ := E
  intro hok i hi H locs ls hP hS hl
  exact W.lcmp hok.1 hok.2.1 hd (h hok i hi H locs ls hP hS hl)
theorem r_lcmp_eq {x y : Int64} {off : Int} {tgt : Nat} {oT oN : Option ι} (hd : decode si.1 pc = .ok (.lcmp, 1)) (hd2 : decode si.1 (pc + 1) = .ok (.ifCond .eq off, 3)) (ht : ((pc + 1 : Nat) : Int) + off = (tgt : Int)) (hT : AW E si cells slots Qf oT tgt lv st d) (hN : AW E si cells slots Qf oN (pc + 4) lv st d) : AW E si cells slots Qf (if x = y then oT else oN) pc lv (.long y :: .long x :: st) d := by
  have hh : (if x = y then oT else oN) = (if lg_cmp x y = 0 then oT else oN) := by
    by_cases q : x = y
    · rw [if_pos q, if_pos (lg_eq.mpr q)]
    · rw [if_neg q, if_neg (fun z => q (lg_eq.mp z))]
  rw [hh]
  exact r_lcmp hd (r_if_eq hd2 ht hT hN)
theorem r_lcmp_ne {x y : Int64} {off : Int} {tgt : Nat} {oT oN : Option ι} (hd : decode si.1 pc = .ok (.lcmp, 1)) (hd2 : decode si.1 (pc + 1) = .ok (.ifCond .ne off, 3)) (ht : ((pc + 1 : Nat) : Int) + off = (tgt : Int)) (hT : AW E si cells slots Qf oT tgt lv st d) (hN : AW E si cells slots Qf oN (pc + 4) lv st d) : AW E si cells slots Qf (if x = y then oN else oT) pc lv (.long y :: .long x :: st) d := by
  have hh : (if x = y then oN else oT) = (if lg_cmp x y = 0 then oN else oT) := by
    by_cases q : x = y
    · rw [if_pos q, if_pos (lg_eq.mpr q)]
    · rw [if_neg q, if_neg (fun z => q (lg_eq.mp z))]
  rw [hh]
  exact r_lcmp hd (r_if_ne hd2 ht hT hN)
theorem r_lcmp_lt {x y : Int64} {off : Int} {tgt : Nat} {oT oN : Option ι} (hd : decode si.1 pc = .ok (.lcmp, 1)) (hd2 : decode si.1 (pc + 1) = .ok (.ifCond .lt off, 3)) (ht : ((pc + 1 : Nat) : Int) + off = (tgt : Int)) (hT : AW E si cells slots Qf oT tgt lv st d) (hN : AW E si cells slots Qf oN (pc + 4) lv st d) : AW E si cells slots Qf (if x < y then oT else oN) pc lv (.long y :: .long x :: st) d := by
  have hh : (if x < y then oT else oN) = (if lg_cmp x y < 0 then oT else oN) := by
    by_cases q : x < y
    · rw [if_pos q, if_pos (lg_lt.mpr q)]
    · rw [if_neg q, if_neg (fun z => q (lg_lt.mp z))]
  rw [hh]
  exact r_lcmp hd (r_if_lt hd2 ht hT hN)
theorem r_lcmp_ge {x y : Int64} {off : Int} {tgt : Nat} {oT oN : Option ι} (hd : decode si.1 pc = .ok (.lcmp, 1)) (hd2 : decode si.1 (pc + 1) = .ok (.ifCond .ge off, 3)) (ht : ((pc + 1 : Nat) : Int) + off = (tgt : Int)) (hT : AW E si cells slots Qf oT tgt lv st d) (hN : AW E si cells slots Qf oN (pc + 4) lv st d) : AW E si cells slots Qf (if x < y then oN else oT) pc lv (.long y :: .long x :: st) d := by
  have hh : (if x < y then oN else oT) = (if lg_cmp x y < 0 then oN else oT) := by
    by_cases q : x < y
    · rw [if_pos q, if_pos (lg_lt.mpr q)]
    · rw [if_neg q, if_neg (fun z => q (lg_lt.mp z))]
  rw [hh]
  exact r_lcmp hd (r_if_ge hd2 ht hT hN)
theorem r_lcmp_gt {x y : Int64} {off : Int} {tgt : Nat} {oT oN : Option ι} (hd : decode si.1 pc = .ok (.lcmp, 1)) (hd2 : decode si.1 (pc + 1) = .ok (.ifCond .gt off, 3)) (ht : ((pc + 1 : Nat) : Int) + off = (tgt : Int)) (hT : AW E si cells slots Qf oT tgt lv st d) (hN : AW E si cells slots Qf oN (pc + 4) lv st d) : AW E si cells slots Qf (if y < x then oT else oN) pc lv (.long y :: .long x :: st) d := by
  have hh : (if y < x then oT else oN) = (if 0 < lg_cmp x y then oT else oN) := by
    by_cases q : y < x
    · rw [if_pos q, if_pos (lg_gt.mpr q)]
    · rw [if_neg q, if_neg (fun z => q (lg_gt.mp z))]
  rw [hh]
  exact r_lcmp hd (r_if_gt hd2 ht hT hN)
theorem r_lcmp_le {x y : Int64} {off : Int} {tgt : Nat} {oT oN : Option ι} (hd : decode si.1 pc = .ok (.lcmp, 1)) (hd2 : decode si.1 (pc + 1) = .ok (.ifCond .le off, 3)) (ht : ((pc + 1 : Nat) : Int) + off = (tgt : Int)) (hT : AW E si cells slots Qf oT tgt lv st d) (hN : AW E si cells slots Qf oN (pc + 4) lv st d) : AW E si cells slots Qf (if y < x then oN else oT) pc lv (.long y :: .long x :: st) d := by
  have hh : (if y < x then oN else oT) = (if 0 < lg_cmp x y then oN else oT) := by
    by_cases q : y < x
    · rw [if_pos q, if_pos (lg_gt.mpr q)]
    · rw [if_neg q, if_neg (fun z => q (lg_gt.mp z))]
  rw [hh]
  exact r_lcmp hd (r_if_le hd2 ht hT hN)
theorem r_goto {off : Int} {tgt : Nat} (hd : decode si.1 pc = .ok (.goto off, 3)) (ht : (pc : Int) + off = (tgt : Int)) (h : AW E si cells slots Qf o tgt lv st d) : AW E si cells slots Qf o pc lv st d := by
  obtain ⟨p, l, e, R, s, m, args, below, meth, c, A, G⟩ := E
  intro hok i hi H locs ls hP hS hl
  exact lv_goto hok.1 hok.2.1 hd ht (h hok i hi H locs ls hP hS hl)
theorem r_ifnull {x : Nat} {off : Int} (hd : decode si.1 pc = .ok (.ifnull off, 3)) (h : AW E si cells slots Qf o (pc + 3) lv st d) : AW E si cells slots Qf o pc lv (.ref x :: st) d := by
  obtain ⟨p, l, e, R, s, m, args, below, meth, c, A, G⟩ := E
  intro hok i hi H locs ls hP hS hl
  exact lv_ifnull hok.1 hok.2.1 hd (h hok i hi H locs ls hP hS hl)
theorem r_ifnonnull {x : Nat} {off : Int} {tgt : Nat} (hd : decode si.1 pc = .ok (.ifnonnull off, 3)) (ht : (pc : Int) + off = (tgt : Int)) (h : AW E si cells slots Qf o tgt lv st d) : AW E si cells slots Qf o pc lv (.ref x :: st) d := by
  obtain ⟨p, l, e, R, s, m, args, below, meth, c, A, G⟩ := E
  intro hok i hi H locs ls hP hS hl
  exact lv_ifnonnull hok.1 hok.2.1 hd ht (h hok i hi H locs ls hP hS hl)
theorem r_ifnullN {off : Int} {tgt : Nat} (hd : decode si.1 pc = .ok (.ifnull off, 3)) (ht : (pc : Int) + off = (tgt : Int)) (h : AW E si cells slots Qf o tgt lv st d) : AW E si cells slots Qf o pc lv (.null :: st) d := by
  obtain ⟨p, l, e, R, s, m, args, below, meth, c, A, G⟩ := E
  intro hok i hi H locs ls hP hS hl
  exact lv_ifnullN hok.1 hok.2.1 hd ht (h hok i hi H locs ls hP hS hl)
theorem r_ifnonnullN {off : Int} (hd : decode si.1 pc = .ok (.ifnonnull off, 3)) (h : AW E si cells slots Qf o (pc + 3) lv st d) : AW E si cells slots Qf o pc lv (.null :: st) d := by
  obtain ⟨p, l, e, R, s, m, args, below, meth, c, A, G⟩ := E
  intro hok i hi H locs ls hP hS hl
  exact lv_ifnonnullN hok.1 hok.2.1 hd (h hok i hi H locs ls hP hS hl)
theorem r_null (hd : decode si.1 pc = .ok (.aconst_null, 1)) (h : AW E si cells slots Qf o (pc + 1) lv (.null :: st) d) : AW E si cells slots Qf o pc lv st d := by
  obtain ⟨p, l, e, R, s, m, args, below, meth, c, A, G⟩ := E
  intro hok i hi H locs ls hP hS hl
  exact lv_null hok.1 hok.2.1 hd (h hok i hi H locs ls hP hS hl)
def ck1 (i : Nat) (q : Nat × Value) : Bool := !(q.1 == i) && !(q.1 + 1 == i && q.2.category == 2)
def ck2 (i : Nat) (q : Nat × Value) : Bool := !(q.1 == i) && (!(q.1 == i + 1) && !(q.1 + 1 == i && q.2.category == 2))
theorem rn_cat (α : Nat → Nat) (v : Value) : (rn α v).category = v.category := by cases v <;> rfl
theorem lv_re1 {ls : Array Slot} {nL i : Nat} {v : Value} {α : Nat → Nat} {l pre post : List (Nat × Value)} (hl : l = pre ++ post) (hc : (pre ++ post).all (ck1 i) = true) {old : List (Nat × Value)} (h : lv_has ls nL ((i, rn α v) :: ((pre ++ old ++ post).map (rnL α)).filter (ck1 i))) : lv_has ls nL ((pre ++ (i, v) :: post).map (rnL α)) := by
  refine ⟨h.1, h.2.1, fun q hq => h.2.2 q ?_⟩
  obtain ⟨z, hz, rfl⟩ := List.mem_map.mp hq
  have hz2 : z = (i, v) ∨ z ∈ pre ++ post := by
    rcases List.mem_append.mp hz with a | a
    · exact Or.inr (List.mem_append_left _ a)
    · rcases List.mem_cons.mp a with a | a
      · exact Or.inl a
      · exact Or.inr (List.mem_append_right _ a)
  rcases hz2 with rfl | hz2
  · exact List.mem_cons_self
  · refine List.mem_cons_of_mem _ (List.mem_filter.mpr ⟨List.mem_map.mpr ⟨z, ?_, rfl⟩, ?_⟩)
    · rcases List.mem_append.mp hz2 with a | a
      · exact List.mem_append_left _ (List.mem_append_left _ a)
      · exact List.mem_append_right _ a
    · have := List.all_eq_true.mp hc z hz2
      unfold ck1 at this ⊢
      show _
      simp only [rnL, rn_cat]
      exact this
theorem lv_re2 {ls : Array Slot} {nL i : Nat} {v : Value} {α : Nat → Nat} {l pre post : List (Nat × Value)} (hl : l = pre ++ post) (hc : (pre ++ post).all (ck2 i) = true) {old : List (Nat × Value)} (h : lv_has ls nL ((i, rn α v) :: ((pre ++ old ++ post).map (rnL α)).filter (ck2 i))) : lv_has ls nL ((pre ++ (i, v) :: post).map (rnL α)) := by
  refine ⟨h.1, h.2.1, fun q hq => h.2.2 q ?_⟩
  obtain ⟨z, hz, rfl⟩ := List.mem_map.mp hq
  have hz2 : z = (i, v) ∨ z ∈ pre ++ post := by
    rcases List.mem_append.mp hz with a | a
    · exact Or.inr (List.mem_append_left _ a)
    · rcases List.mem_cons.mp a with a | a
      · exact Or.inl a
      · exact Or.inr (List.mem_append_right _ a)
  rcases hz2 with rfl | hz2
  · exact List.mem_cons_self
  · refine List.mem_cons_of_mem _ (List.mem_filter.mpr ⟨List.mem_map.mpr ⟨z, ?_, rfl⟩, ?_⟩)
    · rcases List.mem_append.mp hz2 with a | a
      · exact List.mem_append_left _ (List.mem_append_left _ a)
      · exact List.mem_append_right _ a
    · have := List.all_eq_true.mp hc z hz2
      unfold ck2 at this ⊢
      show _
      simp only [rnL, rn_cat]
      exact this
theorem r_iload_n (j : Nat) {k : Fin 4} {i0 : Nat} {x : Int32} (hd : decode si.1 pc = .ok (.iload_n k, 1)) (hi0 : (k : Nat) = i0) (hk : lv[j]? = some (i0, .int x)) (h : AW E si cells slots Qf o (pc + 1) lv (.int x :: st) d) : AW E si cells slots Qf o pc lv st d := by
  obtain ⟨p, l, e, R, s, m, args, below, meth, c, A, G⟩ := E
  intro hok i hi H locs ls hP hS hl
  exact lv_iload_n hok.1 hok.2.1 hd hi0 (lv_at hl j (lvm hk)) (h hok i hi H locs ls hP hS hl)
theorem r_istore_n (pre old post : List (Nat × Value)) {k : Fin 4} {i0 : Nat} {x : Int32} (hd : decode si.1 pc = .ok (.istore_n k, 1)) (hi0 : (k : Nat) = i0) (hn : i0 < si.2.2.1) (hc : (pre ++ post).all (ck1 i0) = true) (h : AW E si cells slots Qf o (pc + 1) (pre ++ (i0, .int x) :: post) st d) : AW E si cells slots Qf o pc (pre ++ old ++ post) (.int x :: st) d := by
  obtain ⟨p, l, e, R, s, m, args, below, meth, c, A, G⟩ := E
  intro hok i hi H locs ls hP hS hl
  exact lv_istore_n hok.1 hok.2.1 hd hi0 hl hn rfl (fun ls' hl' => h hok i hi H locs ls' hP hS (lv_re1 (α := G.2.2) (v := .int x) rfl hc hl'))
theorem r_iload_w (j : Nat) {i0 : Nat} {x : Int32} (hd : decode si.1 pc = .ok (.iload i0, 2))  (hk : lv[j]? = some (i0, .int x)) (h : AW E si cells slots Qf o (pc + 2) lv (.int x :: st) d) : AW E si cells slots Qf o pc lv st d := by
  obtain ⟨p, l, e, R, s, m, args, below, meth, c, A, G⟩ := E
  intro hok i hi H locs ls hP hS hl
  exact lv_iload hok.1 hok.2.1 hd  (lv_at hl j (lvm hk)) (h hok i hi H locs ls hP hS hl)
theorem r_istore_w (pre old post : List (Nat × Value)) {i0 : Nat} {x : Int32} (hd : decode si.1 pc = .ok (.istore i0, 2))  (hn : i0 < si.2.2.1) (hc : (pre ++ post).all (ck1 i0) = true) (h : AW E si cells slots Qf o (pc + 2) (pre ++ (i0, .int x) :: post) st d) : AW E si cells slots Qf o pc (pre ++ old ++ post) (.int x :: st) d := by
  obtain ⟨p, l, e, R, s, m, args, below, meth, c, A, G⟩ := E
  intro hok i hi H locs ls hP hS hl
  exact lv_istore hok.1 hok.2.1 hd  hl hn rfl (fun ls' hl' => h hok i hi H locs ls' hP hS (lv_re1 (α := G.2.2) (v := .int x) rfl hc hl'))
theorem r_lload_n (j : Nat) {k : Fin 4} {i0 : Nat} {x : Int64} (hd : decode si.1 pc = .ok (.lload_n k, 1)) (hi0 : (k : Nat) = i0) (hk : lv[j]? = some (i0, .long x)) (h : AW E si cells slots Qf o (pc + 1) lv (.long x :: st) d) : AW E si cells slots Qf o pc lv st d := by
  obtain ⟨p, l, e, R, s, m, args, below, meth, c, A, G⟩ := E
  intro hok i hi H locs ls hP hS hl
  exact lv_lload_n hok.1 hok.2.1 hd hi0 (lv_at hl j (lvm hk)) (h hok i hi H locs ls hP hS hl)
theorem r_lstore_n (pre old post : List (Nat × Value)) {k : Fin 4} {i0 : Nat} {x : Int64} (hd : decode si.1 pc = .ok (.lstore_n k, 1)) (hi0 : (k : Nat) = i0) (hn : i0 + 1 < si.2.2.1) (hc : (pre ++ post).all (ck2 i0) = true) (h : AW E si cells slots Qf o (pc + 1) (pre ++ (i0, .long x) :: post) st d) : AW E si cells slots Qf o pc (pre ++ old ++ post) (.long x :: st) d := by
  obtain ⟨p, l, e, R, s, m, args, below, meth, c, A, G⟩ := E
  intro hok i hi H locs ls hP hS hl
  exact lv_lstore_n hok.1 hok.2.1 hd hi0 hl hn rfl (fun ls' hl' => h hok i hi H locs ls' hP hS (lv_re2 (α := G.2.2) (v := .long x) rfl hc hl'))
theorem r_lload_w (j : Nat) {i0 : Nat} {x : Int64} (hd : decode si.1 pc = .ok (.lload i0, 2))  (hk : lv[j]? = some (i0, .long x)) (h : AW E si cells slots Qf o (pc + 2) lv (.long x :: st) d) : AW E si cells slots Qf o pc lv st d := by
  obtain ⟨p, l, e, R, s, m, args, below, meth, c, A, G⟩ := E
  intro hok i hi H locs ls hP hS hl
  exact lv_lload hok.1 hok.2.1 hd  (lv_at hl j (lvm hk)) (h hok i hi H locs ls hP hS hl)
theorem r_lstore_w (pre old post : List (Nat × Value)) {i0 : Nat} {x : Int64} (hd : decode si.1 pc = .ok (.lstore i0, 2))  (hn : i0 + 1 < si.2.2.1) (hc : (pre ++ post).all (ck2 i0) = true) (h : AW E si cells slots Qf o (pc + 2) (pre ++ (i0, .long x) :: post) st d) : AW E si cells slots Qf o pc (pre ++ old ++ post) (.long x :: st) d := by
  obtain ⟨p, l, e, R, s, m, args, below, meth, c, A, G⟩ := E
  intro hok i hi H locs ls hP hS hl
  exact lv_lstore hok.1 hok.2.1 hd  hl hn rfl (fun ls' hl' => h hok i hi H locs ls' hP hS (lv_re2 (α := G.2.2) (v := .long x) rfl hc hl'))
theorem r_aload_n (j : Nat) {k : Fin 4} {i0 : Nat} {x : Nat} (hd : decode si.1 pc = .ok (.aload_n k, 1)) (hi0 : (k : Nat) = i0) (hk : lv[j]? = some (i0, .ref x)) (h : AW E si cells slots Qf o (pc + 1) lv (.ref x :: st) d) : AW E si cells slots Qf o pc lv st d := by
  obtain ⟨p, l, e, R, s, m, args, below, meth, c, A, G⟩ := E
  intro hok i hi H locs ls hP hS hl
  exact lv_aload_n hok.1 hok.2.1 hd hi0 (lv_at hl j (lvm hk)) (h hok i hi H locs ls hP hS hl)
theorem r_astore_n (pre old post : List (Nat × Value)) {k : Fin 4} {i0 : Nat} {x : Nat} (hd : decode si.1 pc = .ok (.astore_n k, 1)) (hi0 : (k : Nat) = i0) (hn : i0 < si.2.2.1) (hc : (pre ++ post).all (ck1 i0) = true) (h : AW E si cells slots Qf o (pc + 1) (pre ++ (i0, .ref x) :: post) st d) : AW E si cells slots Qf o pc (pre ++ old ++ post) (.ref x :: st) d := by
  obtain ⟨p, l, e, R, s, m, args, below, meth, c, A, G⟩ := E
  intro hok i hi H locs ls hP hS hl
  exact lv_astore_n hok.1 hok.2.1 hd hi0 hl hn rfl (fun ls' hl' => h hok i hi H locs ls' hP hS (lv_re1 (α := G.2.2) (v := .ref x) rfl hc hl'))
theorem r_aload_w (j : Nat) {i0 : Nat} {x : Nat} (hd : decode si.1 pc = .ok (.aload i0, 2))  (hk : lv[j]? = some (i0, .ref x)) (h : AW E si cells slots Qf o (pc + 2) lv (.ref x :: st) d) : AW E si cells slots Qf o pc lv st d := by
  obtain ⟨p, l, e, R, s, m, args, below, meth, c, A, G⟩ := E
  intro hok i hi H locs ls hP hS hl
  exact lv_aload hok.1 hok.2.1 hd  (lv_at hl j (lvm hk)) (h hok i hi H locs ls hP hS hl)
theorem r_astore_w (pre old post : List (Nat × Value)) {i0 : Nat} {x : Nat} (hd : decode si.1 pc = .ok (.astore i0, 2))  (hn : i0 < si.2.2.1) (hc : (pre ++ post).all (ck1 i0) = true) (h : AW E si cells slots Qf o (pc + 2) (pre ++ (i0, .ref x) :: post) st d) : AW E si cells slots Qf o pc (pre ++ old ++ post) (.ref x :: st) d := by
  obtain ⟨p, l, e, R, s, m, args, below, meth, c, A, G⟩ := E
  intro hok i hi H locs ls hP hS hl
  exact lv_astore hok.1 hok.2.1 hd  hl hn rfl (fun ls' hl' => h hok i hi H locs ls' hP hS (lv_re1 (α := G.2.2) (v := .ref x) rfl hc hl'))
theorem r_aloadN_n (j : Nat) {k : Fin 4} {i0 : Nat} (hd : decode si.1 pc = .ok (.aload_n k, 1)) (hi0 : (k : Nat) = i0) (hk : lv[j]? = some (i0, .null)) (h : AW E si cells slots Qf o (pc + 1) lv (.null :: st) d) : AW E si cells slots Qf o pc lv st d := by
  obtain ⟨p, l, e, R, s, m, args, below, meth, c, A, G⟩ := E
  intro hok i hi H locs ls hP hS hl
  exact lv_aload_nN hok.1 hok.2.1 hd hi0 (lv_at hl j (lvm hk)) (h hok i hi H locs ls hP hS hl)
theorem r_astoreN_n (pre old post : List (Nat × Value)) {k : Fin 4} {i0 : Nat} (hd : decode si.1 pc = .ok (.astore_n k, 1)) (hi0 : (k : Nat) = i0) (hn : i0 < si.2.2.1) (hc : (pre ++ post).all (ck1 i0) = true) (h : AW E si cells slots Qf o (pc + 1) (pre ++ (i0, .null) :: post) st d) : AW E si cells slots Qf o pc (pre ++ old ++ post) (.null :: st) d := by
  obtain ⟨p, l, e, R, s, m, args, below, meth, c, A, G⟩ := E
  intro hok i hi H locs ls hP hS hl
  exact lv_astore_nN hok.1 hok.2.1 hd hi0 hl hn rfl (fun ls' hl' => h hok i hi H locs ls' hP hS (lv_re1 (α := G.2.2) (v := .null) rfl hc hl'))
theorem r_aloadN_w (j : Nat) {i0 : Nat} (hd : decode si.1 pc = .ok (.aload i0, 2))  (hk : lv[j]? = some (i0, .null)) (h : AW E si cells slots Qf o (pc + 2) lv (.null :: st) d) : AW E si cells slots Qf o pc lv st d := by
  obtain ⟨p, l, e, R, s, m, args, below, meth, c, A, G⟩ := E
  intro hok i hi H locs ls hP hS hl
  exact lv_aloadN hok.1 hok.2.1 hd  (lv_at hl j (lvm hk)) (h hok i hi H locs ls hP hS hl)
theorem r_astoreN_w (pre old post : List (Nat × Value)) {i0 : Nat} (hd : decode si.1 pc = .ok (.astore i0, 2))  (hn : i0 < si.2.2.1) (hc : (pre ++ post).all (ck1 i0) = true) (h : AW E si cells slots Qf o (pc + 2) (pre ++ (i0, .null) :: post) st d) : AW E si cells slots Qf o pc (pre ++ old ++ post) (.null :: st) d := by
  obtain ⟨p, l, e, R, s, m, args, below, meth, c, A, G⟩ := E
  intro hok i hi H locs ls hP hS hl
  exact lv_astoreN hok.1 hok.2.1 hd  hl hn rfl (fun ls' hl' => h hok i hi H locs ls' hP hS (lv_re1 (α := G.2.2) (v := .null) rfl hc hl'))
theorem r_iinc (pre post : List (Nat × Value)) {i0 : Nat} {n : Int} {w x : Int32} (hd : decode si.1 pc = .ok (.iinc i0 n, 3)) (hw : Int32.ofInt n = w) (hn : i0 < si.2.2.1) (hc : (pre ++ post).all (ck1 i0) = true) (h : AW E si cells slots Qf o (pc + 3) (pre ++ (i0, .int (x + w)) :: post) st d) : AW E si cells slots Qf o pc (pre ++ (i0, .int x) :: post) st d := by
  obtain ⟨p, l, e, R, s, m, args, below, meth, c, A, G⟩ := E
  intro hok i hi H locs ls hP hS hl
  subst hw
  refine lv_iinc (k := pre.length) (x := x) hok.1 hok.2.1 hd hl ?_ rfl hn rfl (fun ls' hl' => h hok i hi H locs ls' hP hS (lv_re1 (α := G.2.2) (v := .int (x + Int32.ofInt n)) (old := [(i0, .int x)]) rfl hc ?_))
  · simp [rnL, rn]
  · rw [List.append_assoc]
    exact hl'
theorem r_geti {a : Nat} {cc idx : Nat} {C : String} {T : u_T} {N : Nat} (k : Nat) (hk : kd a = cc + 4) (hc : vwCl[cc]? = some (C, T, N)) (hin : ∀ w ∈ u_ws C T N, w ∈ WS) (hlt : k < N) (hf : (fk cc)[k]? = some 0) (hw : Cond.fieldLink si.2.1 idx (T k).1 (T k).2.1 (T k).2.2.1 ∈ WS) (hd : decode si.1 pc = .ok (.getfield idx, 3)) (h : AW E si cells slots Qf o (pc + 3) lv (.int (d.1 a k) :: st) d) : AW E si cells slots Qf o pc lv (.ref a :: st) d := by
  obtain ⟨p, l, e, R, s, m, args, below, meth, c, A, G⟩ := E
  intro hok i hi H locs ls hP hS hl
  have ha : a < NLb := kd_lt hk (by have : cc < vwCl.length := (List.getElem?_eq_some_iff.mp hc).1; have : vwCl.length = 11 := rfl; omega)
  refine va_get hok.1 hok.2.1 hok.2.2.2.2.2.2.2.2.1 hin hok.2.2.1 hok.2.2.2.2.2.2.2.2.2.2.1 hP a (fs := fvals G.2.2 d a 0 (fk cc)) (by rw [ws_at ha, cel_obj hk]) hc k hlt (hok.2.2.2.2.2.2.2.2.1 _ hw) (fun _ q => q) (v := .int (d.1 a k)) ?_ hd (h hok i hi H locs ls hP hS hl)
  rw [fvals_at _ _ _ _ _ _ _ hf, Nat.zero_add]
  rfl
theorem r_getz {a : Nat} {cc idx : Nat} {C : String} {T : u_T} {N : Nat} (k : Nat) (hk : kd a = cc + 4) (hc : vwCl[cc]? = some (C, T, N)) (hin : ∀ w ∈ u_ws C T N, w ∈ WS) (hlt : k < N) (hf : (fk cc)[k]? = some 3) (hw : Cond.fieldLink si.2.1 idx (T k).1 (T k).2.1 (T k).2.2.1 ∈ WS) (hd : decode si.1 pc = .ok (.getfield idx, 3)) (h : AW E si cells slots Qf o (pc + 3) lv (.int (d.1 a k) :: st) d) : AW E si cells slots Qf o pc lv (.ref a :: st) d := by
  obtain ⟨p, l, e, R, s, m, args, below, meth, c, A, G⟩ := E
  intro hok i hi H locs ls hP hS hl
  have ha : a < NLb := kd_lt hk (by have : cc < vwCl.length := (List.getElem?_eq_some_iff.mp hc).1; have : vwCl.length = 11 := rfl; omega)
  refine va_get hok.1 hok.2.1 hok.2.2.2.2.2.2.2.2.1 hin hok.2.2.1 hok.2.2.2.2.2.2.2.2.2.2.1 hP a (fs := fvals G.2.2 d a 0 (fk cc)) (by rw [ws_at ha, cel_obj hk]) hc k hlt (hok.2.2.2.2.2.2.2.2.1 _ hw) (fun _ q => q) (v := .int (d.1 a k)) ?_ hd (h hok i hi H locs ls hP hS hl)
  rw [fvals_at _ _ _ _ _ _ _ hf, Nat.zero_add]
  rfl
theorem r_getl {a : Nat} {cc idx : Nat} {C : String} {T : u_T} {N : Nat} (k : Nat) (hk : kd a = cc + 4) (hc : vwCl[cc]? = some (C, T, N)) (hin : ∀ w ∈ u_ws C T N, w ∈ WS) (hlt : k < N) (hf : (fk cc)[k]? = some 1) (hw : Cond.fieldLink si.2.1 idx (T k).1 (T k).2.1 (T k).2.2.1 ∈ WS) (hd : decode si.1 pc = .ok (.getfield idx, 3)) (h : AW E si cells slots Qf o (pc + 3) lv (.long (d.2 a k) :: st) d) : AW E si cells slots Qf o pc lv (.ref a :: st) d := by
  obtain ⟨p, l, e, R, s, m, args, below, meth, c, A, G⟩ := E
  intro hok i hi H locs ls hP hS hl
  have ha : a < NLb := kd_lt hk (by have : cc < vwCl.length := (List.getElem?_eq_some_iff.mp hc).1; have : vwCl.length = 11 := rfl; omega)
  refine va_get hok.1 hok.2.1 hok.2.2.2.2.2.2.2.2.1 hin hok.2.2.1 hok.2.2.2.2.2.2.2.2.2.2.1 hP a (fs := fvals G.2.2 d a 0 (fk cc)) (by rw [ws_at ha, cel_obj hk]) hc k hlt (hok.2.2.2.2.2.2.2.2.1 _ hw) (fun _ q => q) (v := .long (d.2 a k)) ?_ hd (h hok i hi H locs ls hP hS hl)
  rw [fvals_at _ _ _ _ _ _ _ hf, Nat.zero_add]
  rfl
theorem r_getr {a t : Nat} {cc idx : Nat} {C : String} {T : u_T} {N : Nat} (k : Nat) (hk : kd a = cc + 4) (hc : vwCl[cc]? = some (C, T, N)) (hin : ∀ w ∈ u_ws C T N, w ∈ WS) (hlt : k < N) (hf : (fk cc)[k]? = some 2) (hw : Cond.fieldLink si.2.1 idx (T k).1 (T k).2.1 (T k).2.2.1 ∈ WS) (ht : rf a k = t) (hd : decode si.1 pc = .ok (.getfield idx, 3)) (h : AW E si cells slots Qf o (pc + 3) lv (.ref t :: st) d) : AW E si cells slots Qf o pc lv (.ref a :: st) d := by
  obtain ⟨p, l, e, R, s, m, args, below, meth, c, A, G⟩ := E
  intro hok i hi H locs ls hP hS hl
  have ha : a < NLb := kd_lt hk (by have : cc < vwCl.length := (List.getElem?_eq_some_iff.mp hc).1; have : vwCl.length = 11 := rfl; omega)
  refine va_get hok.1 hok.2.1 hok.2.2.2.2.2.2.2.2.1 hin hok.2.2.1 hok.2.2.2.2.2.2.2.2.2.2.1 hP a (fs := fvals G.2.2 d a 0 (fk cc)) (by rw [ws_at ha, cel_obj hk]) hc k hlt (hok.2.2.2.2.2.2.2.2.1 _ hw) (fun _ q => q) (v := .ref (G.2.2 t)) ?_ hd (h hok i hi H locs ls hP hS hl)
  rw [fvals_at _ _ _ _ _ _ _ hf, Nat.zero_add, ← ht]
  rfl
theorem r_puti {a : Nat} {x : Int32} {cc idx : Nat} {C : String} {T : u_T} {N : Nat} (k : Nat) (ty0 : Nat → FieldType) (hty : ∀ k, k < N → parseFieldDescriptor (T k).2.2.1 = some (ty0 k)) (hnm : ∀ a, a < N → ∀ b, b < N → a ≠ b → (T a).2.1 ≠ (T b).2.1) (hfin : (T k).2.2.2 = false) (hde : parseFieldDescriptor (T k).2.2.1 = some .int) (hk : kd a = cc + 4) (hc : vwCl[cc]? = some (C, T, N)) (hin : ∀ w ∈ u_ws C T N, w ∈ WS) (hlt : k < N) (hf : (fk cc)[k]? = some 0) (hw : Cond.fieldLink si.2.1 idx (T k).1 (T k).2.1 (T k).2.2.1 ∈ WS) (hd : decode si.1 pc = .ok (.putfield idx, 3)) (h : AW E si cells slots Qf o (pc + 3) lv st (u1 d a k x)) : AW E si cells slots Qf o pc lv (.int x :: .ref a :: st) d := by
  obtain ⟨p, l, e, R, s, m, args, below, meth, c, A, G⟩ := E
  intro hok i hi H locs ls hP hS hl
  have ha : a < NLb := kd_lt hk (by have : cc < vwCl.length := (List.getElem?_eq_some_iff.mp hc).1; have : vwCl.length = 11 := rfl; omega)
  have hfl : k < (fvals G.2.2 d a 0 (fk cc)).length := by
    rw [fvals_len]
    exact (List.getElem?_eq_some_iff.mp hf).1
  have hset : (wsW G d).set a (G.2.2 a, .inr (cc, (fvals G.2.2 d a 0 (fk cc)).set k (.int x))) = wsW G (u1 d a k x) := by
    refine ws_set ha _ ?_ (fun b hb => u1_cel hb)
    rw [cel_obj hk, ← fvals_set (d' := u1 d a k x) (fk cc) 0 k _ (.int x) hf ?_ ?_ ?_]
    · simp [fval, u1]
    · intro p hp
      simp at hp
      simp [u1, hp]
    · intro p hp
      simp at hp
      simp [u1, hp]
  refine va_put hok.1 hok.2.1 hok.2.2.2.2.2.2.2.2.1 hin ty0 hty hnm hok.2.2.1 hok.2.2.2.2.2.2.2.2.2.2.1 hP (wsD hok.2.2.2.2.2.2.2.2.2.2.2.1 hok.2.2.2.2.2.2.2.2.2.2.2.2) hS a (fs := fvals G.2.2 d a 0 (fk cc)) (by rw [ws_at ha, cel_obj hk]) hc k hlt (hok.2.2.2.2.2.2.2.2.1 _ hw) (fun _ q => q) hfin (ty := .int) (v := .int x) hde rfl rfl hfl hd (fun H1 locs1 hP1 hD1 hS1 => ?_)
  rw [hset] at hP1
  exact h hok i hi H1 locs1 ls hP1 hS1 hl
theorem r_putl {a : Nat} {x : Int64} {cc idx : Nat} {C : String} {T : u_T} {N : Nat} (k : Nat) (ty0 : Nat → FieldType) (hty : ∀ k, k < N → parseFieldDescriptor (T k).2.2.1 = some (ty0 k)) (hnm : ∀ a, a < N → ∀ b, b < N → a ≠ b → (T a).2.1 ≠ (T b).2.1) (hfin : (T k).2.2.2 = false) (hde : parseFieldDescriptor (T k).2.2.1 = some .long) (hk : kd a = cc + 4) (hc : vwCl[cc]? = some (C, T, N)) (hin : ∀ w ∈ u_ws C T N, w ∈ WS) (hlt : k < N) (hf : (fk cc)[k]? = some 1) (hw : Cond.fieldLink si.2.1 idx (T k).1 (T k).2.1 (T k).2.2.1 ∈ WS) (hd : decode si.1 pc = .ok (.putfield idx, 3)) (h : AW E si cells slots Qf o (pc + 3) lv st (u2 d a k x)) : AW E si cells slots Qf o pc lv (.long x :: .ref a :: st) d := by
  obtain ⟨p, l, e, R, s, m, args, below, meth, c, A, G⟩ := E
  intro hok i hi H locs ls hP hS hl
  have ha : a < NLb := kd_lt hk (by have : cc < vwCl.length := (List.getElem?_eq_some_iff.mp hc).1; have : vwCl.length = 11 := rfl; omega)
  have hfl : k < (fvals G.2.2 d a 0 (fk cc)).length := by
    rw [fvals_len]
    exact (List.getElem?_eq_some_iff.mp hf).1
  have hset : (wsW G d).set a (G.2.2 a, .inr (cc, (fvals G.2.2 d a 0 (fk cc)).set k (.long x))) = wsW G (u2 d a k x) := by
    refine ws_set ha _ ?_ (fun b hb => u2_cel hb)
    rw [cel_obj hk, ← fvals_set (d' := u2 d a k x) (fk cc) 0 k _ (.long x) hf ?_ ?_ ?_]
    · simp [fval, u2]
    · intro p hp
      simp at hp
      simp [u2, hp]
    · intro p hp
      simp at hp
      simp [u2, hp]
  refine va_put hok.1 hok.2.1 hok.2.2.2.2.2.2.2.2.1 hin ty0 hty hnm hok.2.2.1 hok.2.2.2.2.2.2.2.2.2.2.1 hP (wsD hok.2.2.2.2.2.2.2.2.2.2.2.1 hok.2.2.2.2.2.2.2.2.2.2.2.2) hS a (fs := fvals G.2.2 d a 0 (fk cc)) (by rw [ws_at ha, cel_obj hk]) hc k hlt (hok.2.2.2.2.2.2.2.2.1 _ hw) (fun _ q => q) hfin (ty := .long) (v := .long x) hde rfl rfl hfl hd (fun H1 locs1 hP1 hD1 hS1 => ?_)
  rw [hset] at hP1
  exact h hok i hi H1 locs1 ls hP1 hS1 hl
theorem r_putz {a : Nat} {x : Int32} {cc idx : Nat} {C : String} {T : u_T} {N : Nat} (k : Nat) (ty0 : Nat → FieldType) (hty : ∀ k, k < N → parseFieldDescriptor (T k).2.2.1 = some (ty0 k)) (hnm : ∀ a, a < N → ∀ b, b < N → a ≠ b → (T a).2.1 ≠ (T b).2.1) (hfin : (T k).2.2.2 = false) (hde : parseFieldDescriptor (T k).2.2.1 = some .boolean) (hz : narrow .boolean (.int x) = .int x) (hz2 : fits .boolean (.int x) = true) (hk : kd a = cc + 4) (hc : vwCl[cc]? = some (C, T, N)) (hin : ∀ w ∈ u_ws C T N, w ∈ WS) (hlt : k < N) (hf : (fk cc)[k]? = some 3) (hw : Cond.fieldLink si.2.1 idx (T k).1 (T k).2.1 (T k).2.2.1 ∈ WS) (hd : decode si.1 pc = .ok (.putfield idx, 3)) (h : AW E si cells slots Qf o (pc + 3) lv st (u1 d a k x)) : AW E si cells slots Qf o pc lv (.int x :: .ref a :: st) d := by
  obtain ⟨p, l, e, R, s, m, args, below, meth, c, A, G⟩ := E
  intro hok i hi H locs ls hP hS hl
  have ha : a < NLb := kd_lt hk (by have : cc < vwCl.length := (List.getElem?_eq_some_iff.mp hc).1; have : vwCl.length = 11 := rfl; omega)
  have hfl : k < (fvals G.2.2 d a 0 (fk cc)).length := by
    rw [fvals_len]
    exact (List.getElem?_eq_some_iff.mp hf).1
  have hset : (wsW G d).set a (G.2.2 a, .inr (cc, (fvals G.2.2 d a 0 (fk cc)).set k (.int x))) = wsW G (u1 d a k x) := by
    refine ws_set ha _ ?_ (fun b hb => u1_cel hb)
    rw [cel_obj hk, ← fvals_set (d' := u1 d a k x) (fk cc) 0 k _ (.int x) hf ?_ ?_ ?_]
    · simp [fval, u1]
    · intro p hp
      simp at hp
      simp [u1, hp]
    · intro p hp
      simp at hp
      simp [u1, hp]
  refine va_put hok.1 hok.2.1 hok.2.2.2.2.2.2.2.2.1 hin ty0 hty hnm hok.2.2.1 hok.2.2.2.2.2.2.2.2.2.2.1 hP (wsD hok.2.2.2.2.2.2.2.2.2.2.2.1 hok.2.2.2.2.2.2.2.2.2.2.2.2) hS a (fs := fvals G.2.2 d a 0 (fk cc)) (by rw [ws_at ha, cel_obj hk]) hc k hlt (hok.2.2.2.2.2.2.2.2.1 _ hw) (fun _ q => q) hfin (ty := .boolean) (v := .int x) hde hz hz2 hfl hd (fun H1 locs1 hP1 hD1 hS1 => ?_)
  rw [hset] at hP1
  exact h hok i hi H1 locs1 ls hP1 hS1 hl
abbrev ixb (i : Int32) (n : Nat) : Prop := ¬ i < 0 ∧ i.toNatClampNeg < n
theorem ixb_in {i : Int32} {n : Nat} (h : ixb i n) : vp_in i n := fun q => q.elim h.1 (fun z => by have := h.2; omega)
theorem r_iaload {a : Nat} {j : Int32} (hk : kd a = 0) (hd : decode si.1 pc = .ok (.iaload, 1)) (h : AW E si cells slots Qf o (pc + 1) lv (.int (d.1 a j.toNatClampNeg) :: st) d) : AW E si cells slots Qf (if ixb j (ln a) then o else none) pc lv (.int j :: .ref a :: st) d := by
  refine r_guard fun hj => ?_
  obtain ⟨p, l, e, R, s, m, args, below, meth, c, A, G⟩ := E
  intro hok i hi H locs ls hP hS hl
  exact va_iald hok.1 hok.2.1 hok.2.2.2.2.2.2.2.2.2.2.1 hP a 0 (by rw [ws_at (kd_lt hk (by decide)), cel_int hk]) rfl (ixb_in hj) hd (h hok i hi H locs ls hP hS hl)
theorem r_laload {a : Nat} {j : Int32} (hk : kd a = 1) (hd : decode si.1 pc = .ok (.laload, 1)) (h : AW E si cells slots Qf o (pc + 1) lv (.long (d.2 a j.toNatClampNeg) :: st) d) : AW E si cells slots Qf (if ixb j (ln a) then o else none) pc lv (.int j :: .ref a :: st) d := by
  refine r_guard fun hj => ?_
  obtain ⟨p, l, e, R, s, m, args, below, meth, c, A, G⟩ := E
  intro hok i hi H locs ls hP hS hl
  exact va_lald hok.1 hok.2.1 hok.2.2.2.2.2.2.2.2.2.2.1 hP a 1 (by rw [ws_at (kd_lt hk (by decide)), cel_long hk]) rfl (ixb_in hj) hd (h hok i hi H locs ls hP hS hl)
theorem r_baload {a : Nat} {j : Int32} (hk : kd a = 2) (hd : decode si.1 pc = .ok (.baload, 1)) (h : AW E si cells slots Qf o (pc + 1) lv (.int (d.1 a j.toNatClampNeg) :: st) d) : AW E si cells slots Qf (if ixb j (ln a) then o else none) pc lv (.int j :: .ref a :: st) d := by
  refine r_guard fun hj => ?_
  obtain ⟨p, l, e, R, s, m, args, below, meth, c, A, G⟩ := E
  intro hok i hi H locs ls hP hS hl
  exact va_bald hok.1 hok.2.1 hok.2.2.2.2.2.2.2.2.2.2.1 hP a 2 (by rw [ws_at (kd_lt hk (by decide)), cel_byte hk]) rfl (ixb_in hj) hd (h hok i hi H locs ls hP hS hl)
theorem r_zaload {a : Nat} {j : Int32} (hk : kd a = 3) (hd : decode si.1 pc = .ok (.baload, 1)) (h : AW E si cells slots Qf o (pc + 1) lv (.int (d.1 a j.toNatClampNeg) :: st) d) : AW E si cells slots Qf (if ixb j (ln a) then o else none) pc lv (.int j :: .ref a :: st) d := by
  refine r_guard fun hj => ?_
  obtain ⟨p, l, e, R, s, m, args, below, meth, c, A, G⟩ := E
  intro hok i hi H locs ls hP hS hl
  exact va_zald hok.1 hok.2.1 hok.2.2.2.2.2.2.2.2.2.2.1 hP a 3 (by rw [ws_at (kd_lt hk (by decide)), cel_bool hk]) rfl (ixb_in hj) hd (h hok i hi H locs ls hP hS hl)
theorem r_iastore {a : Nat} {j : Int32} {x : Int32} (hk : kd a = 0) (hd : decode si.1 pc = .ok (.iastore, 1)) (h : AW E si cells slots Qf o (pc + 1) lv st (u1 d a j.toNatClampNeg x)) : AW E si cells slots Qf (if ixb j (ln a) then o else none) pc lv (.int x :: .int j :: .ref a :: st) d := by
  refine r_guard fun hj => ?_
  obtain ⟨p, l, e, R, s, m, args, below, meth, c, A, G⟩ := E
  intro hok i hi H locs ls hP hS hl
  have ha : a < NLb := kd_lt hk (by decide)
  refine va_iast hok.1 hok.2.1 hok.2.2.2.2.2.2.2.2.2.2.1 hP (wsD hok.2.2.2.2.2.2.2.2.2.2.2.1 hok.2.2.2.2.2.2.2.2.2.2.2.2) hS a 0 (by rw [ws_at ha, cel_int hk]) rfl (ixb_in hj) hd (fun H1 locs1 hP1 hD1 hS1 => ?_)
  rw [ws_set (d' := u1 d a j.toNatClampNeg x) ha _ (by rw [cel_int hk, u1_row]) (fun b hb => u1_cel hb)] at hP1
  exact h hok i hi H1 locs1 ls hP1 hS1 hl
theorem r_lastore {a : Nat} {j : Int32} {x : Int64} (hk : kd a = 1) (hd : decode si.1 pc = .ok (.lastore, 1)) (h : AW E si cells slots Qf o (pc + 1) lv st (u2 d a j.toNatClampNeg x)) : AW E si cells slots Qf (if ixb j (ln a) then o else none) pc lv (.long x :: .int j :: .ref a :: st) d := by
  refine r_guard fun hj => ?_
  obtain ⟨p, l, e, R, s, m, args, below, meth, c, A, G⟩ := E
  intro hok i hi H locs ls hP hS hl
  have ha : a < NLb := kd_lt hk (by decide)
  refine va_last hok.1 hok.2.1 hok.2.2.2.2.2.2.2.2.2.2.1 hP (wsD hok.2.2.2.2.2.2.2.2.2.2.2.1 hok.2.2.2.2.2.2.2.2.2.2.2.2) hS a 1 (by rw [ws_at ha, cel_long hk]) rfl (ixb_in hj) hd (fun H1 locs1 hP1 hD1 hS1 => ?_)
  rw [ws_set (d' := u2 d a j.toNatClampNeg x) ha _ (by rw [cel_long hk, u2_row]) (fun b hb => u2_cel hb)] at hP1
  exact h hok i hi H1 locs1 ls hP1 hS1 hl
theorem r_bastore {a : Nat} {j : Int32} {x : Int32} (hk : kd a = 2) (hd : decode si.1 pc = .ok (.bastore, 1)) (h : AW E si cells slots Qf o (pc + 1) lv st (u1 d a j.toNatClampNeg (vp_nar .byte x))) : AW E si cells slots Qf (if ixb j (ln a) then o else none) pc lv (.int x :: .int j :: .ref a :: st) d := by
  refine r_guard fun hj => ?_
  obtain ⟨p, l, e, R, s, m, args, below, meth, c, A, G⟩ := E
  intro hok i hi H locs ls hP hS hl
  have ha : a < NLb := kd_lt hk (by decide)
  refine va_bast hok.1 hok.2.1 hok.2.2.2.2.2.2.2.2.2.2.1 hP (wsD hok.2.2.2.2.2.2.2.2.2.2.2.1 hok.2.2.2.2.2.2.2.2.2.2.2.2) hS a 2 (by rw [ws_at ha, cel_byte hk]) rfl (ixb_in hj) hd (fun H1 locs1 hP1 hD1 hS1 => ?_)
  rw [ws_set (d' := u1 d a j.toNatClampNeg (vp_nar .byte x)) ha _ (by rw [cel_byte hk, u1_row]) (fun b hb => u1_cel hb)] at hP1
  exact h hok i hi H1 locs1 ls hP1 hS1 hl
theorem r_zastore {a : Nat} {j : Int32} {x : Int32} (hk : kd a = 3) (hd : decode si.1 pc = .ok (.bastore, 1)) (h : AW E si cells slots Qf o (pc + 1) lv st (u1 d a j.toNatClampNeg (vp_nar .boolean x))) : AW E si cells slots Qf (if ixb j (ln a) then o else none) pc lv (.int x :: .int j :: .ref a :: st) d := by
  refine r_guard fun hj => ?_
  obtain ⟨p, l, e, R, s, m, args, below, meth, c, A, G⟩ := E
  intro hok i hi H locs ls hP hS hl
  have ha : a < NLb := kd_lt hk (by decide)
  refine va_zast hok.1 hok.2.1 hok.2.2.2.2.2.2.2.2.2.2.1 hP (wsD hok.2.2.2.2.2.2.2.2.2.2.2.1 hok.2.2.2.2.2.2.2.2.2.2.2.2) hS a 3 (by rw [ws_at ha, cel_bool hk]) rfl (ixb_in hj) hd (fun H1 locs1 hP1 hD1 hS1 => ?_)
  rw [ws_set (d' := u1 d a j.toNatClampNeg (vp_nar .boolean x)) ha _ (by rw [cel_bool hk, u1_row]) (fun b hb => u1_cel hb)] at hP1
  exact h hok i hi H1 locs1 ls hP1 hS1 hl
theorem r_aleni {a : Nat} (hk : kd a = 0) (hd : decode si.1 pc = .ok (.arraylength, 1)) (h : AW E si cells slots Qf o (pc + 1) lv (.int (Int32.ofNat (ln a)) :: st) d) : AW E si cells slots Qf o pc lv (.ref a :: st) d := by
  obtain ⟨p, l, e, R, s, m, args, below, meth, c, A, G⟩ := E
  intro hok i hi H locs ls hP hS hl
  exact va_alen (x := (ln a, .inl (d.1 a))) hok.1 hok.2.1 hok.2.2.2.2.2.2.2.2.2.2.1 hP a 0 (by rw [ws_at (kd_lt hk (by decide)), cel_int hk]) rfl rfl hd (h hok i hi H locs ls hP hS hl)
theorem r_alenl {a : Nat} (hk : kd a = 1) (hd : decode si.1 pc = .ok (.arraylength, 1)) (h : AW E si cells slots Qf o (pc + 1) lv (.int (Int32.ofNat (ln a)) :: st) d) : AW E si cells slots Qf o pc lv (.ref a :: st) d := by
  obtain ⟨p, l, e, R, s, m, args, below, meth, c, A, G⟩ := E
  intro hok i hi H locs ls hP hS hl
  exact va_alen (x := (ln a, .inr (.inl (d.2 a)))) hok.1 hok.2.1 hok.2.2.2.2.2.2.2.2.2.2.1 hP a 1 (by rw [ws_at (kd_lt hk (by decide)), cel_long hk]) rfl rfl hd (h hok i hi H locs ls hP hS hl)
end AV
