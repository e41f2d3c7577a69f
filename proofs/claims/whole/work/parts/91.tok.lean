-- PURE ROWS: tokens of a text: (bytes, how many, the most)
def lb (b : Nat) : Bool := decide (97 ≤ b ∧ b ≤ 122)
def db (b : Nat) : Bool := decide (48 ≤ b ∧ b ≤ 57)
def wsb (b : Nat) : Bool := decide (b = 32 ∨ b = 10)
def anb (b : Nat) : Bool := lb b || db b
def wsN (g : Nat → Nat) : Nat → Nat → Nat
  | 0, p => p
  | m + 1, p => if wsb (g p) = true then wsN g m (p + 1) else p
def rnN (g : Nat → Nat) : Nat → Nat → Nat
  | 0, p => p
  | m + 1, p => if anb (g p) = true then rnN g m (p + 1) else p
def W64 (g : Nat → Nat) (q : Nat) : Nat → Int64
  | 0 => 0
  | i + 1 => (W64 g q i <<< ((8 : Int32).toInt64 &&& 63)) ||| (nI (g (q + i))).toInt64
def N64 (g : Nat → Nat) (q : Nat) : Nat → Int64
  | 0 => 0
  | i + 1 => if db (g (q + i)) = true then ((N64 g q i * (10 : Int64)) + (nI (g (q + i))).toInt64) - (48 : Int64) else N64 g q i
def N32 (g : Nat → Nat) (q : Nat) : Nat → Int32
  | 0 => 0
  | i + 1 => (((10 : Int32) * N32 g q i) + nI (g (q + i))) - (48 : Int32)
def DG (g : Nat → Nat) (q : Nat) : Nat → Nat
  | 0 => 0
  | i + 1 => if db (g (q + i)) = true then DG g q i + 1 else DG g q i
def srt (v : Int64) : Nat := if v = (1802071652 : Int64) then 5 else if v = (25209 : Int64) then 6 else if v = (123581014175598 : Int64) then 7 else if v = (1953658213 : Int64) then 8 else if v = (1818326117 : Int64) then 9 else if v = (448444786035 : Int64) then 10 else if v = (1633969267 : Int64) then 11 else if v = (465726040947 : Int64) then 12 else if v = (1953854062 : Int64) then 13 else if v = (512735736947 : Int64) then 14 else 4
def rS (g : Nat → Nat) (q m : Nat) : Nat := if DG g q m = 0 ∧ 1 ≤ m ∧ m ≤ 6 then srt (W64 g q m) else if DG g q m = m ∧ 1 ≤ m ∧ m ≤ 2 then 3 else 1
def rV (g : Nat → Nat) (q m : Nat) : Int64 := if DG g q m = 0 ∧ 1 ≤ m ∧ m ≤ 6 then W64 g q m else if DG g q m = m ∧ 1 ≤ m ∧ m ≤ 2 then N64 g q m else 0
-- a text: bytes, how many, the most
def TX : Type := (Nat → Nat) × Nat × Nat
def tQ (G : TX) (p : Nat) : Nat := wsN G.1 (G.2.1 - p) p
def tE (G : TX) (q : Nat) : Nat := rnN G.1 (G.2.1 - q) q
def lim (G : TX) : Nat := min G.2.1 G.2.2
def qS (G : TX) (q : Nat) : Nat := if q < lim G then (if G.1 q = 59 then 2 else rS G.1 q (tE G q - q)) else if G.2.2 < G.2.1 then 1 else 0
def qV (G : TX) (q : Nat) : Int64 := if q < lim G then (if G.1 q = 59 then 0 else rV G.1 q (tE G q - q)) else 0
def qP (G : TX) (q : Nat) : Nat := if q < lim G then q else lim G
def qN (G : TX) (q : Nat) : Nat := if G.1 q = 59 then q + 1 else max (q + 1) (tE G q)
def qD (G : TX) (q : Nat) : Nat := if tE G q - q = 1 then G.1 q - 48 else 10 * (G.1 q - 48) + (G.1 (q + 1) - 48)
def pQ (G : TX) : Nat → Nat
  | 0 => tQ G 0
  | j + 1 => tQ G (qN G (pQ G j))
def so (G : TX) (j : Nat) : Nat := qS G (pQ G j)
def va (G : TX) (j : Nat) : Int64 := qV G (pQ G j)
def pl (G : TX) (j : Nat) : Nat := qP G (pQ G j)
def dv (G : TX) (j : Nat) : Nat := qD G (pQ G j)
def VX (G : TX) : Prop := (∀ i, G.1 i < 256) ∧ G.2.1 ≤ 940 ∧ G.2.2 ≤ 940
-- lemmas
theorem ws_le (g : Nat → Nat) : ∀ (m p : Nat), p ≤ wsN g m p ∧ wsN g m p ≤ p + m
  | 0, p => ⟨Nat.le_refl _, Nat.le_refl _⟩
  | m + 1, p => by
    unfold wsN
    have := ws_le g m (p + 1)
    split <;> omega
theorem rn_le (g : Nat → Nat) : ∀ (m p : Nat), p ≤ rnN g m p ∧ rnN g m p ≤ p + m
  | 0, p => ⟨Nat.le_refl _, Nat.le_refl _⟩
  | m + 1, p => by
    unfold rnN
    have := rn_le g m (p + 1)
    split <;> omega
theorem ws_end (g : Nat → Nat) : ∀ (m p : Nat), wsN g m p < p + m → wsb (g (wsN g m p)) = false
  | 0, p => fun h => absurd h (Nat.lt_irrefl _)
  | m + 1, p => by
    unfold wsN
    intro h
    by_cases c : wsb (g p) = true
    · rw [if_pos c] at h ⊢
      exact ws_end g m (p + 1) (by omega)
    · rw [if_neg c]
      rw [Bool.not_eq_true] at c
      exact c
theorem tQ_le {G : TX} {p : Nat} (h : p ≤ G.2.1) : p ≤ tQ G p ∧ tQ G p ≤ G.2.1 := by
  have := ws_le G.1 (G.2.1 - p) p
  unfold tQ
  omega
theorem tE_le {G : TX} {q : Nat} (h : q ≤ G.2.1) : q ≤ tE G q ∧ tE G q ≤ G.2.1 := by
  have := rn_le G.1 (G.2.1 - q) q
  unfold tE
  omega
theorem tQ_ws {G : TX} {p : Nat} (h : p < G.2.1) (c : wsb (G.1 p) = true) : tQ G p = tQ G (p + 1) := by
  unfold tQ
  obtain ⟨m, hm⟩ : ∃ m, G.2.1 - p = m + 1 := ⟨G.2.1 - p - 1, by omega⟩
  rw [hm, show G.2.1 - (p + 1) = m by omega]
  show (if wsb (G.1 p) = true then wsN G.1 m (p + 1) else p) = _
  rw [if_pos c]
theorem tQ_nw {G : TX} {p : Nat} (c : wsb (G.1 p) = false) : tQ G p = p := by
  unfold tQ
  cases G.2.1 - p with
  | zero => rfl
  | succ m =>
    show (if wsb (G.1 p) = true then wsN G.1 m (p + 1) else p) = _
    rw [if_neg (by rw [c]; decide)]
theorem tQ_end {G : TX} {p : Nat} (h : G.2.1 ≤ p) : tQ G p = p := by
  unfold tQ
  rw [show G.2.1 - p = 0 by omega]
  rfl
theorem tE_na {G : TX} {q : Nat} (c : anb (G.1 q) = false) : tE G q = q := by
  unfold tE
  cases G.2.1 - q with
  | zero => rfl
  | succ m =>
    show (if anb (G.1 q) = true then rnN G.1 m (q + 1) else q) = _
    rw [if_neg (by rw [c]; decide)]
theorem tE_an {G : TX} {q : Nat} (h : q < G.2.1) (c : anb (G.1 q) = true) : q + 1 ≤ tE G q := by
  unfold tE
  obtain ⟨m, hm⟩ : ∃ m, G.2.1 - q = m + 1 := ⟨G.2.1 - q - 1, by omega⟩
  rw [hm]
  show _ ≤ (if anb (G.1 q) = true then rnN G.1 m (q + 1) else q)
  rw [if_pos c]
  exact (rn_le G.1 m (q + 1)).1
theorem dg_le (g : Nat → Nat) (q : Nat) : ∀ i, DG g q i ≤ i
  | 0 => Nat.le_refl _
  | i + 1 => by
    have := dg_le g q i
    unfold DG
    split <;> omega
theorem dg_l (g : Nat → Nat) (q : Nat) (h : db (g q) = false) : ∀ i, DG g q (i + 1) ≤ i
  | 0 => by
    unfold DG
    rw [Nat.add_zero, if_neg (by rw [h]; decide)]
    exact dg_le g q 0
  | i + 1 => by
    have := dg_l g q h i
    show (if db (g (q + (i + 1))) = true then DG g q (i + 1) + 1 else DG g q (i + 1)) ≤ i + 1
    split <;> omega
theorem dg_d (g : Nat → Nat) (q : Nat) (h : db (g q) = true) : ∀ i, 1 ≤ DG g q (i + 1)
  | 0 => by
    unfold DG
    rw [Nat.add_zero, if_pos h]
    omega
  | i + 1 => by
    have := dg_d g q h i
    show 1 ≤ (if db (g (q + (i + 1))) = true then DG g q (i + 1) + 1 else DG g q (i + 1))
    split <;> omega
theorem srt_cs (v : Int64) : srt v = 4 ∨ srt v = 5 ∨ srt v = 6 ∨ srt v = 7 ∨ srt v = 8 ∨ srt v = 9 ∨ srt v = 10 ∨ srt v = 11 ∨ srt v = 12 ∨ srt v = 13 ∨ srt v = 14 := by
  unfold srt
  repeat' split
  all_goals omega
theorem rS_le (g : Nat → Nat) (q m : Nat) : 1 ≤ rS g q m ∧ rS g q m ≤ 14 := by
  have := srt_cs (W64 g q m)
  unfold rS
  split
  · omega
  · split <;> omega
theorem qS_le (G : TX) (q : Nat) : qS G q ≤ 14 := by
  have := rS_le G.1 q (tE G q - q)
  unfold qS
  repeat' split
  all_goals omega
theorem qS_fin {G : TX} {q : Nat} (h : 1 < qS G q) : q < lim G := by
  apply Classical.byContradiction
  intro c
  unfold qS at h
  rw [if_neg c] at h
  split at h <;> omega
theorem qS_0 {G : TX} {q : Nat} (h : q < lim G) : 1 ≤ qS G q := by
  have := rS_le G.1 q (tE G q - q)
  unfold qS
  rw [if_pos h]
  split <;> omega
theorem qP_le {G : TX} (X : VX G) (q : Nat) : qP G q ≤ 940 := by
  have := X.2.1
  unfold qP lim
  split <;> omega
theorem qN_le {G : TX} {q : Nat} (h : q < G.2.1) : q + 1 ≤ qN G q ∧ qN G q ≤ G.2.1 := by
  have := tE_le (G := G) (q := q) (by omega)
  unfold qN
  split <;> omega
theorem n32_1 : ∀ b, b < 58 → 48 ≤ b → (((10 : Int32) * (0 : Int32)) + nI b) - (48 : Int32) = nI (b - 48) := by decide +kernel
theorem n32_2 : ∀ a, a < 10 → ∀ b, b < 58 → 48 ≤ b → (((10 : Int32) * nI a) + nI b) - (48 : Int32) = nI (10 * a + (b - 48)) := by decide +kernel
theorem n64_1 : ∀ b, b < 58 → 48 ≤ b → (((0 : Int64) * (10 : Int64)) + (nI b).toInt64) - (48 : Int64) = lN (b - 48) := by decide +kernel
theorem n64_2 : ∀ a, a < 10 → ∀ b, b < 58 → 48 ≤ b → ((lN a * (10 : Int64)) + (nI b).toInt64) - (48 : Int64) = lN (10 * a + (b - 48)) := by decide +kernel
theorem db_iff {b : Nat} : db b = true ↔ 48 ≤ b ∧ b ≤ 57 := decide_eq_true_iff
theorem lb_iff {b : Nat} : lb b = true ↔ 97 ≤ b ∧ b ≤ 122 := decide_eq_true_iff
theorem num_v {g : Nat → Nat} {q m : Nat} (h : DG g q m = m) (h1 : 1 ≤ m) (h2 : m ≤ 2) : (if m = 1 then g q - 48 else 10 * (g q - 48) + (g (q + 1) - 48)) ≤ 99 ∧ N64 g q m = lN (if m = 1 then g q - 48 else 10 * (g q - 48) + (g (q + 1) - 48)) ∧ N32 g q m = nI (if m = 1 then g q - 48 else 10 * (g q - 48) + (g (q + 1) - 48)) := by
  have hm : m = 1 ∨ m = 2 := by omega
  rcases hm with rfl | rfl
  · have h' : (if db (g q) = true then 0 + 1 else 0) = 1 := h
    have c : db (g q) = true := by
      apply Classical.byContradiction
      intro z
      rw [if_neg z] at h'
      omega
    have c' := db_iff.mp c
    rw [if_pos rfl]
    refine ⟨by omega, ?_, ?_⟩
    · show (if db (g q) = true then ((0 * (10 : Int64)) + (nI (g q)).toInt64) - (48 : Int64) else 0) = _
      rw [if_pos c]
      exact n64_1 _ (by omega) c'.1
    · exact n32_1 (g q) (by omega) c'.1
  · have h' : (if db (g (q + 1)) = true then (if db (g q) = true then 0 + 1 else 0) + 1 else (if db (g q) = true then 0 + 1 else 0)) = 2 := h
    have c1 : db (g (q + 1)) = true := by
      apply Classical.byContradiction
      intro z
      rw [if_neg z] at h'
      split at h' <;> omega
    have c0 : db (g q) = true := by
      apply Classical.byContradiction
      intro z
      rw [if_pos c1, if_neg z] at h'
      omega
    have d0 := db_iff.mp c0
    have d1 := db_iff.mp c1
    rw [if_neg (by omega)]
    refine ⟨by omega, ?_, ?_⟩
    · show (if db (g (q + 1)) = true then (((if db (g q) = true then ((0 * (10 : Int64)) + (nI (g q)).toInt64) - (48 : Int64) else 0) * (10 : Int64)) + (nI (g (q + 1))).toInt64) - (48 : Int64) else (if db (g q) = true then ((0 * (10 : Int64)) + (nI (g q)).toInt64) - (48 : Int64) else 0)) = _
      rw [if_pos c1, if_pos c0, n64_1 _ (by omega) d0.1]
      exact n64_2 _ (by omega) _ (by omega) d1.1
    · show (((10 : Int32) * ((((10 : Int32) * (0 : Int32)) + nI (g q)) - (48 : Int32))) + nI (g (q + 1))) - (48 : Int32) = _
      rw [n32_1 _ (by omega) d0.1]
      exact n32_2 _ (by omega) _ (by omega) d1.1
theorem rS_3 {g : Nat → Nat} {q m : Nat} (h : rS g q m = 3) : (DG g q m = m ∧ 1 ≤ m ∧ m ≤ 2) ∧ rV g q m = N64 g q m := by
  have := srt_cs (W64 g q m)
  unfold rS at h
  unfold rV
  by_cases c : DG g q m = 0 ∧ 1 ≤ m ∧ m ≤ 6
  · rw [if_pos c] at h
    omega
  · rw [if_neg c] at h ⊢
    by_cases c2 : DG g q m = m ∧ 1 ≤ m ∧ m ≤ 2
    · rw [if_pos c2]
      exact ⟨c2, rfl⟩
    · rw [if_neg c2] at h
      omega
theorem rS_4 {g : Nat → Nat} {q m : Nat} (h : 4 ≤ rS g q m) : (DG g q m = 0 ∧ 1 ≤ m ∧ m ≤ 6) ∧ rV g q m = W64 g q m ∧ rS g q m = srt (W64 g q m) := by
  unfold rS at h ⊢
  unfold rV
  by_cases c : DG g q m = 0 ∧ 1 ≤ m ∧ m ≤ 6
  · rw [if_pos c] at h ⊢
    rw [if_pos c]
    exact ⟨c, rfl, rfl⟩
  · rw [if_neg c] at h
    split at h <;> omega
theorem rS_2 {g : Nat → Nat} {q m : Nat} : ¬ rS g q m = 2 := by
  have := srt_cs (W64 g q m)
  unfold rS
  split
  · omega
  · split <;> omega
theorem q3 {G : TX} {q : Nat} (h : qS G q = 3) : qV G q = lN (qD G q) ∧ qD G q ≤ 99 := by
  have l := qS_fin (by omega : 1 < qS G q)
  unfold qS at h
  unfold qV qD
  rw [if_pos l] at h ⊢
  by_cases c : G.1 q = 59
  · rw [if_pos c] at h
    omega
  · rw [if_neg c] at h ⊢
    obtain ⟨a, b⟩ := rS_3 h
    obtain ⟨x, y, _⟩ := num_v a.1 a.2.1 a.2.2
    rw [b, y]
    exact ⟨rfl, x⟩
theorem q4 {G : TX} {q : Nat} (h : 4 ≤ qS G q) : qS G q = srt (qV G q) := by
  have l := qS_fin (by omega : 1 < qS G q)
  unfold qS at h ⊢
  unfold qV
  rw [if_pos l] at h ⊢
  rw [if_pos l]
  by_cases c : G.1 q = 59
  · rw [if_pos c] at h
    omega
  · rw [if_neg c] at h ⊢
    rw [if_neg c]
    obtain ⟨a, b, e⟩ := rS_4 h
    rw [b, e]
