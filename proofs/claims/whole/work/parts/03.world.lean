-- THE WORLDS: memory M (by cell, by slot), one of the class (u = 0), one of the reference (u = 1)
abbrev Mm : Type := (Nat → Nat → Int32) × (Nat → Nat → Int64)
abbrev GG : Type := va_G × (Nat → ClassId) × Nat × (Nat → Nat) × (Nat → Nat)
abbrev gD (G : GG) : va_G := G.1
abbrev gC (G : GG) : Nat → ClassId := G.2.1
abbrev gB (G : GG) : Nat := G.2.2.1
abbrev gK (G : GG) : Nat → Nat := G.2.2.2.1
abbrev gV (G : GG) : Nat → Nat := G.2.2.2.2
def tyA (cs : Nat → ClassId) : List (ClassId × FieldType) := [(cs 0, .int), (cs 1, .byte), (cs 2, .boolean), (cs 3, .long), (cs 4, .object RX6), (cs 5, .object RX7), (cs 6, .object RX8), (cs 7, .array .int)]
def wI (M : Mm) (a k : Nat) (x : Int32) : Mm := (fun b => if b = a then upd (M.1 a) k x else M.1 b, M.2)
def wJ (M : Mm) (a k : Nat) (x : Int64) : Mm := (M.1, fun b => if b = a then vp_updL (M.2 a) k x else M.2 b)
/-- a whole row anew -/
def wR (M : Mm) (a : Nat) (f : Nat → Int32) : Mm := (fun b => if b = a then f else M.1 b, M.2)
def wS (M : Mm) (a : Nat) (f : Nat → Int64) : Mm := (M.1, fun b => if b = a then f else M.2 b)
theorem wI_row (M : Mm) (a k : Nat) (x : Int32) : (wI M a k x).1 a = upd (M.1 a) k x := if_pos rfl
theorem wJ_row (M : Mm) (a k : Nat) (x : Int64) : (wJ M a k x).2 a = vp_updL (M.2 a) k x := if_pos rfl
theorem wR_row (M : Mm) (a : Nat) (f : Nat → Int32) : (wR M a f).1 a = f := if_pos rfl
theorem wS_row (M : Mm) (a : Nat) (f : Nat → Int64) : (wS M a f).2 a = f := if_pos rfl
theorem wI_ne {M : Mm} {a k : Nat} {x : Int32} {b : Nat} (h : b ≠ a) : (wI M a k x).1 b = M.1 b := if_neg h
theorem wJ_ne {M : Mm} {a k : Nat} {x : Int64} {b : Nat} (h : b ≠ a) : (wJ M a k x).2 b = M.2 b := if_neg h
theorem wR_ne {M : Mm} {a : Nat} {f : Nat → Int32} {b : Nat} (h : b ≠ a) : (wR M a f).1 b = M.1 b := if_neg h
theorem wS_ne {M : Mm} {a : Nat} {f : Nat → Int64} {b : Nat} (h : b ≠ a) : (wS M a f).2 b = M.2 b := if_neg h
/-- the land that a field tells -/
def ld (v : Int32) : Nat := if v = 0 then 141 else 177
def FX0 (G : GG) (a : Nat) (r : Nat → Int32) (q : Nat → Int64) : List Value := [.int (r 0), .ref (gB G + (a + 1)), .ref (gB G + (a + 2)), .ref (gB G + (a + 3)), .ref (gB G + (a + 4))]
def FX1 (G : GG) (a : Nat) (r : Nat → Int32) (q : Nat → Int64) : List Value := [.int (r 0), .int (r 1), .int (r 2), .ref (gB G + (a + 1))]
def FX2 (G : GG) (a : Nat) (r : Nat → Int32) (q : Nat → Int64) : List Value := [.int (r 0), .int (r 1), .int (r 2), .int (r 3), .int (r 4), .int (r 5), .ref (gB G + (a + 1))]
def FX3 (G : GG) (a : Nat) (r : Nat → Int32) (q : Nat → Int64) : List Value := [.long (q 0), .long (q 1), .ref (gB G + (a + 1))]
def FX4 (G : GG) (a : Nat) (r : Nat → Int32) (q : Nat → Int64) : List Value := [.int (r 0), .int (r 1), .ref (gB G + (a + 1)), .ref (gB G + (a + 2)), .int (r 4), .ref (gB G + (a + 3)), .ref (gB G + (a + 4)), .ref (gB G + (a + 5))]
def FX5 (G : GG) (a : Nat) (r : Nat → Int32) (q : Nat → Int64) : List Value := [.int (r 0), .int (r 1), .int (r 2)]
def FX6 (G : GG) (a : Nat) (r : Nat → Int32) (q : Nat → Int64) : List Value := [.int (r 0), .int (r 1), .int (r 2), .int (r 3), .int (r 4), .int (r 5), .int (r 6)]
def FX7 (G : GG) (a : Nat) (r : Nat → Int32) (q : Nat → Int64) : List Value := [.int (r 0), .ref (gB G + (a + 1)), .ref (gB G + (a + 2)), .ref (gB G + (a + 3)), .ref (gB G + (a + 4)), .ref (gB G + (a + 5)), .ref (gB G + (a + 6))]
def FX8 (G : GG) (a : Nat) (r : Nat → Int32) (q : Nat → Int64) : List Value := [.int (r 0), .int (r 1), .ref (gB G + (a + 1)), .int (r 3)]
def FX9 (G : GG) (a : Nat) (r : Nat → Int32) (q : Nat → Int64) : List Value := [.ref (gB G + (a + 1)), .int (r 1), .int (r 2), .int (r 3), .int (r 4), .int (r 5), .int (r 6), .int (r 7), .int (r 8), .int (r 9), .int (r 10), .int (r 11)]
def FX10 (G : GG) (a : Nat) (r : Nat → Int32) (q : Nat → Int64) : List Value := [.int (r 0), .int (r 1), .ref (gB G + (a + 1)), .ref (gB G + (a + 14))]
def FX11 (G : GG) (a : Nat) (r : Nat → Int32) (q : Nat → Int64) : List Value := [.ref (gB G + (a + 1)), .ref (gB G + (a + 3)), .ref (gB G + (a + 34)), .ref (gB G + (a + 35)), .ref (gB G + (a + 98)), .ref (gB G + (a + 100)), .ref (gB G + (a + 128)), .ref (gB G + (a + 130)), .ref (gB G + (a + 132)), .ref (gB G + ld (r 9)), .ref (gB G + ld (r 10)), .int (r 11)]
def FX12 (G : GG) (r : Nat → Int32) : List Value := [.ref (gB G + 1), .int (r 1), .ref (gB G + 2), .ref (gB G + 3), .ref (gB G + 4), .int (r 5), .int (r 6), .ref (gB G + 5), .ref (gB G + 6), .ref (gB G + 7), .ref (gB G + 8), .int (r 11), .int (r 12), .int (r 13), .int (r 14), .int (r 15), .ref (gB G + 9), .int (r 17), .int (r 18), .int (r 19), .int (r 20), .int (r 21), .int (r 22), .int (r 23), .int (r 24), .ref (gB G + 10), .ref (gB G + 11), .ref (gB G + 12), .ref (gB G + 13), .ref (gB G + 14), .int (r 30), .ref (gB G + 15), .ref (gB G + 16), .ref (gB G + 17), .ref (gB G + 18), .int (r 35)]
def kXl : List Nat := [11, 9, 25, 7, 28, 21, 21, 21, 22, 0, 20, 20, 20, 20, 6, 6, 6, 6, 6, 6, 6, 6, 6, 6, 6, 6, 6, 6, 6, 6, 6, 6, 6, 6, 29, 26, 7, 28, 21, 21, 21, 22, 0, 20, 20, 20, 20, 6, 6, 6, 6, 6, 6, 6, 6, 6, 6, 6, 6, 6, 6, 6, 6, 6, 6, 6, 6, 7, 28, 21, 21, 21, 22, 0, 20, 20, 20, 20, 6, 6, 6, 6, 6, 6, 6, 6, 6, 6, 6, 6, 6, 6, 6, 6, 6, 6, 6, 6, 2, 21, 10, 31, 21, 21, 21, 21, 21, 21, 21, 21, 21, 21, 21, 21, 32, 21, 21, 21, 21, 21, 21, 21, 21, 21, 21, 21, 21, 21, 3, 27, 1, 21, 30, 8, 24, 8, 24, 8, 24, 8, 24, 4, 22, 5, 23, 23, 7, 28, 21, 21, 21, 22, 0, 20, 20, 20, 20, 6, 6, 6, 6, 6, 6, 6, 6, 6, 6, 6, 6, 6, 6, 6, 6, 6, 6, 6, 6, 4, 22, 5, 23, 23, 7, 28, 21, 21, 21, 22, 0, 20, 20, 20, 20, 6, 6, 6, 6, 6, 6, 6, 6, 6, 6, 6, 6, 6, 6, 6, 6, 6, 6, 6, 6]
def kX (a : Nat) : Nat := kXl.getD a 99
def EX (G : GG) (a : Nat) (r : Nat → Int32) (q : Nat → Int64) : va_E := match kX a with
  | 0 => .inr (0, FX0 G a r q)
  | 1 => .inr (1, FX1 G a r q)
  | 2 => .inr (2, FX2 G a r q)
  | 3 => .inr (3, FX3 G a r q)
  | 4 => .inr (4, FX4 G a r q)
  | 5 => .inr (5, FX5 G a r q)
  | 6 => .inr (6, FX6 G a r q)
  | 7 => .inr (7, FX7 G a r q)
  | 8 => .inr (8, FX8 G a r q)
  | 9 => .inr (9, FX9 G a r q)
  | 10 => .inr (10, FX10 G a r q)
  | 11 => .inr (11, FX11 G a r q)
  | 20 => .inl (gC G 0, 6, .inl r)
  | 21 => .inl (gC G 0, 10, .inl r)
  | 22 => .inl (gC G 0, 12, .inl r)
  | 23 => .inl (gC G 0, 8, .inl r)
  | 24 => .inl (gC G 0, 40, .inl r)
  | 25 => .inl (gC G 1, 400, .inl r)
  | 26 => .inl (gC G 2, 2, .inl r)
  | 27 => .inl (gC G 3, 100, .inr (.inl q))
  | 28 => .inl (gC G 4, 20, .inr (.inr (.inr (.inr (fun i => if i < 20 then some (gB G + (a + 10 + i)) else none)))))
  | 29 => .inl (gC G 5, 2, .inr (.inr (.inr (.inr (fun i => if i < 2 then some (gB G + (a + 2 + 31 * i)) else none)))))
  | 30 => .inl (gC G 6, 4, .inr (.inr (.inr (.inr (fun i => if i < 4 then some (gB G + (a + 1 + 2 * i)) else none)))))
  | 31 => .inl (gC G 7, 12, .inr (.inr (.inr (.inr (fun i => if i < 12 then some (gB G + (a + 1 + i)) else none)))))
  | 32 => .inl (gC G 7, 13, .inr (.inr (.inr (.inr (fun i => if i < 13 then some (gB G + (a + 1 + i)) else none)))))
  | _ => .inl (gC G 0, 0, .inl r)
def lM (a : Nat) : Nat := ([0, 840, 12, 3, 16, 210, 12, 3, 16, 400, 17, 79, 10, 130, 10, 2, 4, 4, 160] : List Nat).getD a 0
def EY (G : GG) (a : Nat) (r : Nat → Int32) (_q : Nat → Int64) : va_E := match a with
  | 0 => .inr (12, FX12 G r)
  | 15 => .inl (gC G 2, 2, .inl r)
  | a => .inl (gC G 0, lM a, .inl r)
def EV (u : Nat) (G : GG) (a : Nat) (r : Nat → Int32) (q : Nat → Int64) : va_E := match u with | 1 => EY G a r q | _ => EX G a r q
/-- the worlds: 0 the class's, 1 the reference's, 2 and 3 the block of a land -/
def wlo (u : Nat) : Nat := match u with | 0 => 0 | 1 => 0 | 2 => 141 | _ => 177
def whi (u : Nat) : Nat := match u with | 0 => 213 | 1 => 19 | 2 => 177 | _ => 213
abbrev inW (u a : Nat) : Prop := wlo u ≤ a ∧ a < whi u
def kU (u a : Nat) : Nat := match u with | 1 => 99 | v => if wlo v ≤ a ∧ a < whi v then kX a else 99
def cw (B n0 n1 : Nat) (E : Nat → va_E) : va_W := (List.range (n1 - n0)).map fun i => (B + (n0 + i), E (n0 + i))
theorem kU_spec {u a k : Nat} (h : kU u a = k) (hk : k < 99) : u ≠ 1 ∧ inW u a ∧ kX a = k := by
  match u, h with
  | 0, h =>
    by_cases q : wlo 0 ≤ a ∧ a < whi 0
    · exact ⟨by decide, q, by rw [← h]; exact (if_pos q).symm⟩
    · exact absurd (h.symm.trans (if_neg q)) (by omega)
  | 1, h => exact absurd (h.symm.trans (show kU 1 a = 99 from rfl)) (by omega)
  | 2, h =>
    by_cases q : wlo 2 ≤ a ∧ a < whi 2
    · exact ⟨by decide, q, by rw [← h]; exact (if_pos q).symm⟩
    · exact absurd (h.symm.trans (if_neg q)) (by omega)
  | u + 3, h =>
    by_cases q : wlo (u + 3) ≤ a ∧ a < whi (u + 3)
    · exact ⟨by omega, q, by rw [← h]; exact (if_pos q).symm⟩
    · exact absurd (h.symm.trans (if_neg q)) (by omega)
theorem kU_in {u a k : Nat} (h : kU u a = k) (hk : k < 99) : inW u a := (kU_spec h hk).2.1
theorem EV_X {u : Nat} (h : u ≠ 1) (G : GG) (a : Nat) (r : Nat → Int32) (q : Nat → Int64) : EV u G a r q = EX G a r q := by
  match u, h with
  | 0, _ => rfl
  | 2, _ => rfl
  | u + 3, _ => rfl
theorem E_0 {u a : Nat} (h : kU u a = 0) (G : GG) (r : Nat → Int32) (q : Nat → Int64) : EV u G a r q = .inr (0, FX0 G a r q) := by
  obtain ⟨h1, -, h⟩ := kU_spec h (by decide)
  rw [EV_X h1]
  unfold EX
  rw [h] <;> rfl
theorem E_1 {u a : Nat} (h : kU u a = 1) (G : GG) (r : Nat → Int32) (q : Nat → Int64) : EV u G a r q = .inr (1, FX1 G a r q) := by
  obtain ⟨h1, -, h⟩ := kU_spec h (by decide)
  rw [EV_X h1]
  unfold EX
  rw [h] <;> rfl
theorem E_2 {u a : Nat} (h : kU u a = 2) (G : GG) (r : Nat → Int32) (q : Nat → Int64) : EV u G a r q = .inr (2, FX2 G a r q) := by
  obtain ⟨h1, -, h⟩ := kU_spec h (by decide)
  rw [EV_X h1]
  unfold EX
  rw [h] <;> rfl
theorem E_3 {u a : Nat} (h : kU u a = 3) (G : GG) (r : Nat → Int32) (q : Nat → Int64) : EV u G a r q = .inr (3, FX3 G a r q) := by
  obtain ⟨h1, -, h⟩ := kU_spec h (by decide)
  rw [EV_X h1]
  unfold EX
  rw [h] <;> rfl
theorem E_4 {u a : Nat} (h : kU u a = 4) (G : GG) (r : Nat → Int32) (q : Nat → Int64) : EV u G a r q = .inr (4, FX4 G a r q) := by
  obtain ⟨h1, -, h⟩ := kU_spec h (by decide)
  rw [EV_X h1]
  unfold EX
  rw [h] <;> rfl
theorem E_5 {u a : Nat} (h : kU u a = 5) (G : GG) (r : Nat → Int32) (q : Nat → Int64) : EV u G a r q = .inr (5, FX5 G a r q) := by
  obtain ⟨h1, -, h⟩ := kU_spec h (by decide)
  rw [EV_X h1]
  unfold EX
  rw [h] <;> rfl
theorem E_6 {u a : Nat} (h : kU u a = 6) (G : GG) (r : Nat → Int32) (q : Nat → Int64) : EV u G a r q = .inr (6, FX6 G a r q) := by
  obtain ⟨h1, -, h⟩ := kU_spec h (by decide)
  rw [EV_X h1]
  unfold EX
  rw [h] <;> rfl
theorem E_7 {u a : Nat} (h : kU u a = 7) (G : GG) (r : Nat → Int32) (q : Nat → Int64) : EV u G a r q = .inr (7, FX7 G a r q) := by
  obtain ⟨h1, -, h⟩ := kU_spec h (by decide)
  rw [EV_X h1]
  unfold EX
  rw [h] <;> rfl
theorem E_8 {u a : Nat} (h : kU u a = 8) (G : GG) (r : Nat → Int32) (q : Nat → Int64) : EV u G a r q = .inr (8, FX8 G a r q) := by
  obtain ⟨h1, -, h⟩ := kU_spec h (by decide)
  rw [EV_X h1]
  unfold EX
  rw [h] <;> rfl
theorem E_9 {u a : Nat} (h : kU u a = 9) (G : GG) (r : Nat → Int32) (q : Nat → Int64) : EV u G a r q = .inr (9, FX9 G a r q) := by
  obtain ⟨h1, -, h⟩ := kU_spec h (by decide)
  rw [EV_X h1]
  unfold EX
  rw [h] <;> rfl
theorem E_10 {u a : Nat} (h : kU u a = 10) (G : GG) (r : Nat → Int32) (q : Nat → Int64) : EV u G a r q = .inr (10, FX10 G a r q) := by
  obtain ⟨h1, -, h⟩ := kU_spec h (by decide)
  rw [EV_X h1]
  unfold EX
  rw [h] <;> rfl
theorem E_11 {u a : Nat} (h : kU u a = 11) (G : GG) (r : Nat → Int32) (q : Nat → Int64) : EV u G a r q = .inr (11, FX11 G a r q) := by
  obtain ⟨h1, -, h⟩ := kU_spec h (by decide)
  rw [EV_X h1]
  unfold EX
  rw [h] <;> rfl
theorem E_20 {u a : Nat} (h : kU u a = 20) (G : GG) (r : Nat → Int32) (q : Nat → Int64) : EV u G a r q = .inl (gC G 0, 6, .inl r) := by
  obtain ⟨h1, -, h⟩ := kU_spec h (by decide)
  rw [EV_X h1]
  unfold EX
  rw [h] <;> rfl
theorem E_21 {u a : Nat} (h : kU u a = 21) (G : GG) (r : Nat → Int32) (q : Nat → Int64) : EV u G a r q = .inl (gC G 0, 10, .inl r) := by
  obtain ⟨h1, -, h⟩ := kU_spec h (by decide)
  rw [EV_X h1]
  unfold EX
  rw [h] <;> rfl
theorem E_22 {u a : Nat} (h : kU u a = 22) (G : GG) (r : Nat → Int32) (q : Nat → Int64) : EV u G a r q = .inl (gC G 0, 12, .inl r) := by
  obtain ⟨h1, -, h⟩ := kU_spec h (by decide)
  rw [EV_X h1]
  unfold EX
  rw [h] <;> rfl
theorem E_23 {u a : Nat} (h : kU u a = 23) (G : GG) (r : Nat → Int32) (q : Nat → Int64) : EV u G a r q = .inl (gC G 0, 8, .inl r) := by
  obtain ⟨h1, -, h⟩ := kU_spec h (by decide)
  rw [EV_X h1]
  unfold EX
  rw [h] <;> rfl
theorem E_24 {u a : Nat} (h : kU u a = 24) (G : GG) (r : Nat → Int32) (q : Nat → Int64) : EV u G a r q = .inl (gC G 0, 40, .inl r) := by
  obtain ⟨h1, -, h⟩ := kU_spec h (by decide)
  rw [EV_X h1]
  unfold EX
  rw [h] <;> rfl
theorem E_25 {u a : Nat} (h : kU u a = 25) (G : GG) (r : Nat → Int32) (q : Nat → Int64) : EV u G a r q = .inl (gC G 1, 400, .inl r) := by
  obtain ⟨h1, -, h⟩ := kU_spec h (by decide)
  rw [EV_X h1]
  unfold EX
  rw [h] <;> rfl
theorem E_26 {u a : Nat} (h : kU u a = 26) (G : GG) (r : Nat → Int32) (q : Nat → Int64) : EV u G a r q = .inl (gC G 2, 2, .inl r) := by
  obtain ⟨h1, -, h⟩ := kU_spec h (by decide)
  rw [EV_X h1]
  unfold EX
  rw [h] <;> rfl
theorem E_27 {u a : Nat} (h : kU u a = 27) (G : GG) (r : Nat → Int32) (q : Nat → Int64) : EV u G a r q = .inl (gC G 3, 100, .inr (.inl q)) := by
  obtain ⟨h1, -, h⟩ := kU_spec h (by decide)
  rw [EV_X h1]
  unfold EX
  rw [h] <;> rfl
theorem E_28 {u a : Nat} (h : kU u a = 28) (G : GG) (r : Nat → Int32) (q : Nat → Int64) : EV u G a r q = .inl (gC G 4, 20, .inr (.inr (.inr (.inr (fun i => if i < 20 then some (gB G + (a + 10 + i)) else none))))) := by
  obtain ⟨h1, -, h⟩ := kU_spec h (by decide)
  rw [EV_X h1]
  unfold EX
  rw [h] <;> rfl
theorem E_29 {u a : Nat} (h : kU u a = 29) (G : GG) (r : Nat → Int32) (q : Nat → Int64) : EV u G a r q = .inl (gC G 5, 2, .inr (.inr (.inr (.inr (fun i => if i < 2 then some (gB G + (a + 2 + 31 * i)) else none))))) := by
  obtain ⟨h1, -, h⟩ := kU_spec h (by decide)
  rw [EV_X h1]
  unfold EX
  rw [h] <;> rfl
theorem E_30 {u a : Nat} (h : kU u a = 30) (G : GG) (r : Nat → Int32) (q : Nat → Int64) : EV u G a r q = .inl (gC G 6, 4, .inr (.inr (.inr (.inr (fun i => if i < 4 then some (gB G + (a + 1 + 2 * i)) else none))))) := by
  obtain ⟨h1, -, h⟩ := kU_spec h (by decide)
  rw [EV_X h1]
  unfold EX
  rw [h] <;> rfl
theorem E_31 {u a : Nat} (h : kU u a = 31) (G : GG) (r : Nat → Int32) (q : Nat → Int64) : EV u G a r q = .inl (gC G 7, 12, .inr (.inr (.inr (.inr (fun i => if i < 12 then some (gB G + (a + 1 + i)) else none))))) := by
  obtain ⟨h1, -, h⟩ := kU_spec h (by decide)
  rw [EV_X h1]
  unfold EX
  rw [h] <;> rfl
theorem E_32 {u a : Nat} (h : kU u a = 32) (G : GG) (r : Nat → Int32) (q : Nat → Int64) : EV u G a r q = .inl (gC G 7, 13, .inr (.inr (.inr (.inr (fun i => if i < 13 then some (gB G + (a + 1 + i)) else none))))) := by
  obtain ⟨h1, -, h⟩ := kU_spec h (by decide)
  rw [EV_X h1]
  unfold EX
  rw [h] <;> rfl
theorem kall {P : (Nat → Nat) → Nat → Bool} (h : ([0, 2, 3] : List Nat).all (fun v => (List.range 213).all (fun a => P (kU v) a)) = true) {u a k : Nat} (ha : kU u a = k) (hk : k < 99) : P (kU u) a = true := by
  have hl : a < 213 := by
    obtain ⟨h1, h2, -⟩ := kU_spec ha hk
    match u, h1, h2 with
    | 0, _, h2 => exact h2.2
    | 2, _, h2 => exact Nat.lt_trans h2.2 (by decide)
    | u + 3, _, h2 => exact h2.2
  have h9 := List.all_eq_true.mp h
  match u, ha with
  | 0, _ => exact List.all_eq_true.mp (h9 0 (by decide)) a (List.mem_range.mpr hl)
  | 1, ha => exact absurd (ha.symm.trans (show kU 1 a = 99 from rfl)) (by omega)
  | 2, _ => exact List.all_eq_true.mp (h9 2 (by decide)) a (List.mem_range.mpr hl)
  | u + 3, _ => exact List.all_eq_true.mp (h9 3 (by decide)) a (List.mem_range.mpr hl)
theorem k_0_1 {u a : Nat} (h : kU u a = 0) : kU u (a + 1) = 20 := by
  have h1 := kall (P := fun f a => !(f a == 0) || f (a + 1) == 20) (by decide +kernel) h (by decide)
  simpa [h] using h1
theorem k_0_2 {u a : Nat} (h : kU u a = 0) : kU u (a + 2) = 20 := by
  have h1 := kall (P := fun f a => !(f a == 0) || f (a + 2) == 20) (by decide +kernel) h (by decide)
  simpa [h] using h1
theorem k_0_3 {u a : Nat} (h : kU u a = 0) : kU u (a + 3) = 20 := by
  have h1 := kall (P := fun f a => !(f a == 0) || f (a + 3) == 20) (by decide +kernel) h (by decide)
  simpa [h] using h1
theorem k_0_4 {u a : Nat} (h : kU u a = 0) : kU u (a + 4) = 20 := by
  have h1 := kall (P := fun f a => !(f a == 0) || f (a + 4) == 20) (by decide +kernel) h (by decide)
  simpa [h] using h1
theorem k_4_2 {u a : Nat} (h : kU u a = 4) : kU u (a + 1) = 22 := by
  have h1 := kall (P := fun f a => !(f a == 4) || f (a + 1) == 22) (by decide +kernel) h (by decide)
  simpa [h] using h1
theorem k_4_3 {u a : Nat} (h : kU u a = 4) : kU u (a + 2) = 5 := by
  have h1 := kall (P := fun f a => !(f a == 4) || f (a + 2) == 5) (by decide +kernel) h (by decide)
  simpa [h] using h1
theorem k_4_5 {u a : Nat} (h : kU u a = 4) : kU u (a + 3) = 23 := by
  have h1 := kall (P := fun f a => !(f a == 4) || f (a + 3) == 23) (by decide +kernel) h (by decide)
  simpa [h] using h1
theorem k_4_6 {u a : Nat} (h : kU u a = 4) : kU u (a + 4) = 23 := by
  have h1 := kall (P := fun f a => !(f a == 4) || f (a + 4) == 23) (by decide +kernel) h (by decide)
  simpa [h] using h1
theorem k_4_7 {u a : Nat} (h : kU u a = 4) : kU u (a + 5) = 7 := by
  have h1 := kall (P := fun f a => !(f a == 4) || f (a + 5) == 7) (by decide +kernel) h (by decide)
  simpa [h] using h1
theorem k_7_1 {u a : Nat} (h : kU u a = 7) : kU u (a + 1) = 28 := by
  have h1 := kall (P := fun f a => !(f a == 7) || f (a + 1) == 28) (by decide +kernel) h (by decide)
  simpa [h] using h1
theorem k_7_2 {u a : Nat} (h : kU u a = 7) : kU u (a + 2) = 21 := by
  have h1 := kall (P := fun f a => !(f a == 7) || f (a + 2) == 21) (by decide +kernel) h (by decide)
  simpa [h] using h1
theorem k_7_3 {u a : Nat} (h : kU u a = 7) : kU u (a + 3) = 21 := by
  have h1 := kall (P := fun f a => !(f a == 7) || f (a + 3) == 21) (by decide +kernel) h (by decide)
  simpa [h] using h1
theorem k_7_4 {u a : Nat} (h : kU u a = 7) : kU u (a + 4) = 21 := by
  have h1 := kall (P := fun f a => !(f a == 7) || f (a + 4) == 21) (by decide +kernel) h (by decide)
  simpa [h] using h1
theorem k_7_5 {u a : Nat} (h : kU u a = 7) : kU u (a + 5) = 22 := by
  have h1 := kall (P := fun f a => !(f a == 7) || f (a + 5) == 22) (by decide +kernel) h (by decide)
  simpa [h] using h1
theorem k_7_6 {u a : Nat} (h : kU u a = 7) : kU u (a + 6) = 0 := by
  have h1 := kall (P := fun f a => !(f a == 7) || f (a + 6) == 0) (by decide +kernel) h (by decide)
  simpa [h] using h1
theorem k_8_2 {u a : Nat} (h : kU u a = 8) : kU u (a + 1) = 24 := by
  have h1 := kall (P := fun f a => !(f a == 8) || f (a + 1) == 24) (by decide +kernel) h (by decide)
  simpa [h] using h1
theorem k_28 {u a i : Nat} (h : kU u a = 28) (hi : i < 20) : kU u (a + 10 + i) = 6 := by
  have h1 := kall (P := fun f a => !(f a == 28) || (List.range 20).all (fun i => f (a + 10 + i) == 6)) (by decide +kernel) h (by decide)
  have h2 : (List.range 20).all (fun i => kU u (a + 10 + i) == 6) = true := by simpa [h] using h1
  simpa using List.all_eq_true.mp h2 i (List.mem_range.mpr hi)
theorem k_29 {u a i : Nat} (h : kU u a = 29) (hi : i < 2) : kU u (a + 2 + 31 * i) = 7 := by
  have h1 := kall (P := fun f a => !(f a == 29) || (List.range 2).all (fun i => f (a + 2 + 31 * i) == 7)) (by decide +kernel) h (by decide)
  have h2 : (List.range 2).all (fun i => kU u (a + 2 + 31 * i) == 7) = true := by simpa [h] using h1
  simpa using List.all_eq_true.mp h2 i (List.mem_range.mpr hi)
theorem k_30 {u a i : Nat} (h : kU u a = 30) (hi : i < 4) : kU u (a + 1 + 2 * i) = 8 := by
  have h1 := kall (P := fun f a => !(f a == 30) || (List.range 4).all (fun i => f (a + 1 + 2 * i) == 8)) (by decide +kernel) h (by decide)
  have h2 : (List.range 4).all (fun i => kU u (a + 1 + 2 * i) == 8) = true := by simpa [h] using h1
  simpa using List.all_eq_true.mp h2 i (List.mem_range.mpr hi)
theorem k_31 {u a i : Nat} (h : kU u a = 31) (hi : i < 12) : kU u (a + 1 + i) = 21 := by
  have h1 := kall (P := fun f a => !(f a == 31) || (List.range 12).all (fun i => f (a + 1 + i) == 21)) (by decide +kernel) h (by decide)
  have h2 : (List.range 12).all (fun i => kU u (a + 1 + i) == 21) = true := by simpa [h] using h1
  simpa using List.all_eq_true.mp h2 i (List.mem_range.mpr hi)
theorem k_32 {u a i : Nat} (h : kU u a = 32) (hi : i < 13) : kU u (a + 1 + i) = 21 := by
  have h1 := kall (P := fun f a => !(f a == 32) || (List.range 13).all (fun i => f (a + 1 + i) == 21)) (by decide +kernel) h (by decide)
  have h2 : (List.range 13).all (fun i => kU u (a + 1 + i) == 21) = true := by simpa [h] using h1
  simpa using List.all_eq_true.mp h2 i (List.mem_range.mpr hi)
theorem k_ld (v : Int32) : kU 0 (ld v) = 4 := by
  unfold ld
  split <;> decide +kernel
theorem cw_at {B n0 n1 : Nat} {E : Nat → va_E} {a : Nat} (h0 : n0 ≤ a) (h : a < n1) : (cw B n0 n1 E)[a - n0]? = some (B + a, E a) := by
  unfold cw
  rw [List.getElem?_map, List.getElem?_range (by omega)]
  show some (B + (n0 + (a - n0)), E (n0 + (a - n0))) = _
  rw [show n0 + (a - n0) = a by omega]
theorem cw_key {B n0 n1 : Nat} {E : Nat → va_E} {k : Nat} {q : Nat × va_E} (h : (cw B n0 n1 E)[k]? = some q) : n0 + k < n1 ∧ q = (B + (n0 + k), E (n0 + k)) := by
  by_cases hk : k < n1 - n0
  · have h1 := cw_at (B := B) (E := E) (a := n0 + k) (n0 := n0) (n1 := n1) (by omega) (by omega)
    rw [show n0 + k - n0 = k by omega, h] at h1
    exact ⟨by omega, Option.some.inj h1⟩
  · exfalso
    have h1 : (cw B n0 n1 E)[k]? = none := by rw [List.getElem?_eq_none_iff]; unfold cw; simpa using hk
    rw [h1] at h
    cases h
theorem cw_set {B n0 n1 : Nat} {E E' : Nat → va_E} {a : Nat} {e : va_E} (h0 : n0 ≤ a) (hne : ∀ b, b ≠ a → E' b = E b) (he : E' a = e) : (cw B n0 n1 E).set (a - n0) (B + a, e) = cw B n0 n1 E' := by
  apply List.ext_getElem?
  intro i
  by_cases hi : i < n1 - n0
  · have e1 := cw_at (B := B) (E := E') (a := n0 + i) (n0 := n0) (n1 := n1) (by omega) (by omega)
    have e2 := cw_at (B := B) (E := E) (a := n0 + i) (n0 := n0) (n1 := n1) (by omega) (by omega)
    rw [show n0 + i - n0 = i by omega] at e1 e2
    by_cases hia : i = a - n0
    · have ha : n0 + i = a := by omega
      rw [e1, hia, List.getElem?_set_self (by unfold cw; simpa [← hia] using hi), ← hia, ha, he]
    · rw [List.getElem?_set_ne (Ne.symm hia), e1, e2, hne (n0 + i) (by omega)]
  · have h1 : (cw B n0 n1 E')[i]? = none := by rw [List.getElem?_eq_none_iff]; unfold cw; simpa using hi
    have h2 : ((cw B n0 n1 E).set (a - n0) (B + a, e))[i]? = none := by rw [List.getElem?_eq_none_iff]; unfold cw; simpa using hi
    rw [h1, h2]
theorem cw_D {B n0 n1 : Nat} {E : Nat → va_E} : va_D (fun q => B + n0 ≤ q ∧ q < B + n1) (cw B n0 n1 E) := by
  refine ⟨fun i j p q hi hj hpq => ?_, fun k q hk => ?_⟩
  · obtain ⟨-, rfl⟩ := cw_key hi
    obtain ⟨-, rfl⟩ := cw_key hj
    have : B + (n0 + i) = B + (n0 + j) := hpq
    omega
  · obtain ⟨h1, rfl⟩ := cw_key hk
    exact ⟨by show B + n0 ≤ B + (n0 + k); omega, by show B + (n0 + k) < B + n1; omega⟩
def EU (u : Nat) (G : GG) (M : Mm) (a : Nat) : va_E := EV u G a (M.1 a) (M.2 a)
def AU (u : Nat) (G : GG) : Nat → Prop := fun q => gB G + wlo u ≤ q ∧ q < gB G + whi u
def Rp (u : Nat) (G : GG) (M : Mm) (H : Heap) : Prop := va_P (gD G) vwCl (cw (gB G) (wlo u) (whi u) (EU u G M)) H
/-- the Strings that the class names -/
def sLen : List Nat := [8, 3, 5, 6, 4, 3, 7, 5, 4, 4, 5, 4, 6, 6, 5, 4]
def sByt : List (List Int32) := [[102, 117, 114, 108, 111, 110, 103, 115], [115, 117, 110], [102, 114, 111, 115, 116], [116, 114, 101, 97, 116, 121], [115, 110, 111, 119], [109, 97, 110], [98, 114, 97, 122, 105, 101, 114], [104, 111, 117, 115, 101], [119, 101, 115, 116], [101, 97, 115, 116], [112, 108, 97, 105, 110], [105, 99, 101, 100], [115, 104, 97, 100, 101, 100], [112, 97, 99, 107, 101, 100], [99, 104, 105, 108, 100], [98, 97, 114, 101]]
def sIdx : List Nat := [64, 72, 87, 91, 101, 107, 112, 122, 233, 235, 188, 191, 193, 195, 197, 207]
def sTxt : List String := ["furlongs", "sun", "frost", "treaty", "snow", "man", "brazier", "house", "west", "east", "plain", "iced", "shaded", "packed", "child", "bare"]
def nestL : List (String × Nat × MethodName × String) := [("SnowSentries", 9, ⟨"SnowSentries$Text", "<init>", "()V"⟩, "SnowSentries"), ("SnowSentries$Scene", 32, ⟨"SnowSentries$Braziers", "<init>", "()V"⟩, "SnowSentries"), ("SnowSentries$Scene", 37, ⟨"SnowSentries$Man", "<init>", "()V"⟩, "SnowSentries"), ("SnowSentries", 33, ⟨"SnowSentries$Felt", "<init>", "()V"⟩, "SnowSentries"), ("SnowSentries", 40, ⟨"SnowSentries$Ways", "<init>", "()V"⟩, "SnowSentries"), ("SnowSentries", 47, ⟨"SnowSentries$Forecast", "<init>", "()V"⟩, "SnowSentries"), ("SnowSentries", 54, ⟨"SnowSentries$Crews", "<init>", "()V"⟩, "SnowSentries"), ("SnowSentries", 65, ⟨"SnowSentries$Sheet", "<init>", "()V"⟩, "SnowSentries"), ("SnowSentries$Land", 17, ⟨"SnowSentries$Law", "<init>", "()V"⟩, "SnowSentries"), ("SnowSentries$Text", 19, ⟨"SnowSentries", "isAmong", "(III)Z"⟩, "SnowSentries"), ("SnowSentries$Law", 21, ⟨"SnowSentries", "isAmong", "(III)Z"⟩, "SnowSentries"), ("SnowSentries$Sheet", 32, ⟨"SnowSentries", "isAmong", "(III)Z"⟩, "SnowSentries")]
def NK (U : State) : Prop := ∀ q ∈ nestL, va_Nw (.methodLinkNest q.1 q.2.1 q.2.2.1 q.2.2.2) U
def SK (G : GG) (U : State) : Prop := NK U ∧ vk_S 16 sLen sByt (gK G) (gV G) (AU 0 G) U U.heap ∧ (∀ i, i < 16 → vk_R RX9 (sIdx.getD i 0) (sTxt.getD i "") (gK G i) U) ∧ va_Z "java/lang/String" "COMPACT_STRINGS" "Z" (.int 1) (AU 0 G) U U.heap ∧ va_Zq "jdk/internal/util/Preconditions" "SIOOBE_FORMATTER" "Ljava/util/function/BiFunction;" (AU 0 G) U U.heap
def KK (u : Nat) (G : GG) (U : State) : Prop := va_K (gD G) vwCl (tyA (gC G)) U ∧ (u = 0 → SK G U)
theorem SK.go {G : GG} {s U : State} {H : Heap} {locs : List Loc} (h : SK G s) (hS : va_S (AU 0 G) s.heap H locs) (hW : s.WarmedH U.vm) (hU : U.heap = H) : SK G U := by
  obtain ⟨h0, h1, h2, h3, h4⟩ := h
  have hq : ∀ a : Nat, a < s.heap.size → ¬ AU 0 G a → U.heap[a]? = s.heap[a]? := by rw [hU]; exact hS.2.1
  exact ⟨fun q hq => va_Nw.warmM hW (h0 q hq), (h1.kept hq).moved hW.alike, fun i hi => (h2 i hi).warm hW, (h3.kept hq).moved hW.alike, (h4.kept hq).moved hW.alike⟩
theorem KK.go {u : Nat} {G : GG} {s U : State} {H : Heap} {locs : List Loc} (h : KK u G s) (hS : va_S (AU u G) s.heap H locs) (hW : s.WarmedH U.vm) (hU : U.heap = H) : KK u G U := by
  refine ⟨va_K.moved hW.alike h.1, fun hu => ?_⟩
  subst hu
  exact (h.2 rfl).go hS hW hU
theorem KK.calling {u : Nat} {G : GG} {U : State} {g : JFrame} {mk : MethodId} {a : Array Value} (h : KK u G U) : KK u G (U.calling g mk a) := by
  refine ⟨va_K.moved (u := U) (U := U.calling g mk a) (Vm.Alike.refl U.vm) h.1, fun hu => ?_⟩
  obtain ⟨h0, h1, h2, h3, h4⟩ := h.2 hu
  exact ⟨fun q hq => va_Nw.same (u := U) (U := U.calling g mk a) rfl rfl (h0 q hq), vk_S.moved (u := U) (U := U.calling g mk a) (Vm.Alike.refl U.vm) h1, fun i hi => (h2 i hi).same rfl, va_Z.moved (u := U) (U := U.calling g mk a) (Vm.Alike.refl U.vm) h3, va_Zq.moved (u := U) (U := U.calling g mk a) (Vm.Alike.refl U.vm) h4⟩
