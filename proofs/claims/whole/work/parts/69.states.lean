-- THE READING: states
abbrev Gg : Type := (Nat → Nat) × Nat × Nat × Mm × Mm
def XO (d : Nat) (M0 M : Mm) : Prop := (∀ c, c ≠ 1 → (c < d ∨ d + 36 ≤ c) → M.1 c = M0.1 c) ∧ ∀ k, k < 20 → isB (M.1 (d + 16 + k) 6)
def YO (N0 N : Mm) : Prop := (∀ c, c ≠ 0 → (c < 5 ∨ 8 < c) → N.1 c = N0.1 c) ∧ ∀ j, (j < 11 ∨ (15 < j ∧ j < 19) ∨ 24 < j) → N.1 0 j = N0.1 0 j
def OKg (g : Gg) : Prop := TXB g.1 g.2.1 ∧ TM g.1 g.2.1 g.2.2.2.1 ∧ TN g.1 g.2.1 g.2.2.2.2 ∧ (g.2.2.1 = 141 ∨ g.2.2.1 = 177) ∧ (∀ j, j < 17 → g.2.2.2.2.1 10 j = nI (cutsL.getD j 0)) ∧ ∀ j, j < 79 → g.2.2.2.2.1 11 j = nI (letL.getD j 0)
def WX (g : Gg) (X : Mm) : Prop := XO g.2.2.1 g.2.2.2.1 X ∧ X.1 1 1 = nI g.2.1 ∧ X.1 1 2 = g.2.2.2.1.1 1 2
def WN (g : Gg) (Y : Mm) : Prop := YO g.2.2.2.2 Y
/-- before a token -/
def CS (g : Gg) (X Y : Mm) (q : Nat) (M N : Mm) : Prop := (TXo X M ∧ WX g X) ∧ (TYo Y N ∧ WN g Y) ∧ q ≤ g.2.1 ∧ (M.1 1 3 = 0 ∧ M.1 1 7 = nI q) ∧ N.1 0 19 = 0 ∧ N.1 0 21 = nI q
/-- at a token -/
def AS (g : Gg) (X Y : Mm) (st q : Nat) (M N : Mm) : Prop := CS g X Y q M N ∧ st ≤ q ∧ M.1 1 6 = nI st ∧ N.1 0 22 = nI st ∧ ∃ kind val, kind ≤ 3 ∧ val ≤ 999 ∧ (kind ≠ 0 → st < q) ∧ (kind = 0 → st = g.2.1) ∧ M.1 1 5 = nI kind ∧ N.1 0 23 = nI kind ∧ (kind = 2 → M.1 1 8 = nI val ∧ N.1 0 24 = nI val)
def VT (n : Nat) (N : Mm) : Prop := N.1 0 23 = 1 → ∃ st q, st < q ∧ q ≤ n ∧ N.1 0 22 = nI st ∧ N.1 0 21 = nI q
def BR (g : Gg) (N : Mm) : Prop := WN g N ∧ (∃ c, 1 ≤ c ∧ c ≤ 6 ∧ N.1 0 19 = nI c) ∧ VT g.2.1 N
/-- it is broken -/
def FS (g : Gg) (M N : Mm) : Prop := XO g.2.2.1 g.2.2.2.1 M ∧ BR g N ∧ M.1 1 3 = N.1 0 19 ∧ M.1 1 4 = N.1 0 20
theorem TXo.row {X M : Mm} (h : TXo X M) {c : Nat} (hc : c ≠ 1) : M.1 c = X.1 c := funext fun k => h c k (by omega)
theorem TYo.row {X M : Mm} (h : TYo X M) {c : Nat} (hc : c ≠ 0) : M.1 c = X.1 c := funext fun k => h c k (by omega)
theorem WX.o {g : Gg} {X M : Mm} (h : WX g X) (t : TXo X M) : WX g M := ⟨⟨fun c h1 h2 => (t.row h1).trans (h.1.1 c h1 h2), fun k hk => by rw [t.row (by omega)]; exact h.1.2 k hk⟩, (t 1 1 (by omega)).trans h.2.1, (t 1 2 (by omega)).trans h.2.2⟩
theorem WN.o {g : Gg} {X M : Mm} (h : WN g X) (t : TYo X M) : WN g M := ⟨fun c h1 h2 => (t.row h1).trans (h.1 c h1 h2), fun j hj => (t 0 j (by omega)).trans (h.2 j hj)⟩
theorem WX.tm {g : Gg} {X : Mm} (hg : OKg g) (h : WX g X) : TM g.1 g.2.1 X := ⟨h.2.1, fun j hj => by rw [h.1.1 2 (by decide) (by have := hg.2.2.2.1; omega)]; exact hg.2.1.2 j hj⟩
theorem WN.tn {g : Gg} {Y : Mm} (hg : OKg g) (h : WN g Y) : TN g.1 g.2.1 Y := ⟨by rw [h.2 17 (by omega)]; exact hg.2.2.1.1, fun j hj => by rw [h.1 9 (by decide) (by omega)]; exact hg.2.2.1.2 j hj⟩
theorem TXo.t {A B C : Mm} (h : TXo A B) (h2 : TXo B C) : TXo A C := fun c k z => (h2 c k z).trans (h c k z)
theorem TYo.t {A B C : Mm} (h : TYo A B) (h2 : TYo B C) : TYo A C := fun c k z => (h2 c k z).trans (h c k z)
/-- a write beside the tokens -/
theorem TXo.ww {X M : Mm} (h : TXo X M) (a k : Nat) (v : Int32) : TXo (wI X a k v) (wI M a k v) := fun c j z => by
  rw [mI, mI]
  split
  · rfl
  · exact h c j z
theorem TYo.ww {X M : Mm} (h : TYo X M) (a k : Nat) (v : Int32) : TYo (wI X a k v) (wI M a k v) := fun c j z => by
  rw [mI, mI]
  split
  · rfl
  · exact h c j z
/-- where the class may write: the draft, and what was said -/
def OXv (g : Gg) (a k : Nat) (v : Int32) : Prop := (a ≠ 1 ∧ g.2.2.1 ≤ a ∧ a < g.2.2.1 + 36 ∧ ((k ≠ 6 ∨ a < g.2.2.1 + 16) ∨ isB v)) ∨ (a = 1 ∧ k ≠ 1 ∧ k ≠ 2 ∧ k ≠ 3 ∧ k ≠ 7 ∧ k ≠ 5 ∧ k ≠ 6 ∧ k ≠ 8)
def OX (g : Gg) (a k : Nat) : Prop := ∀ v, OXv g a k v
def OY (a k : Nat) : Prop := (5 ≤ a ∧ a ≤ 8) ∨ (a = 0 ∧ 11 ≤ k ∧ k ≤ 15)
theorem WX.ww {g : Gg} {X : Mm} {a k : Nat} {v : Int32} (h : WX g X) (o : OXv g a k v) : WX g (wI X a k v) := by
  refine ⟨⟨fun c h1 h2 => ?_, fun j hj => ?_⟩, ?_, ?_⟩
  · by_cases e : c = a
    · rcases o with ⟨o1, o2, o3, -⟩ | ⟨o1, -⟩ <;> omega
    · rw [wI_o e]
      exact h.1.1 c h1 h2
  · rw [mI]
    split
    · rename_i e
      rcases o with ⟨o1, o2, o3, o4 | o4⟩ | ⟨o1, -⟩
      · omega
      · exact o4
      · omega
    · exact h.1.2 j hj
  · rw [mIn (by rcases o with ⟨o1, -⟩ | o1 <;> omega)]
    exact h.2.1
  · rw [mIn (by rcases o with ⟨o1, -⟩ | o1 <;> omega)]
    exact h.2.2
theorem WN.ww {g : Gg} {X : Mm} {a k : Nat} {v : Int32} (h : WN g X) (o : OY a k) : WN g (wI X a k v) := by
  unfold OY at o
  refine ⟨fun c h1 h2 => ?_, fun j hj => ?_⟩
  · rw [wI_o (by omega)]
    exact h.1 c h1 h2
  · rw [mIn (by omega)]
    exact h.2 j hj
theorem CS.wV {g : Gg} {X Y M N : Mm} {q a k : Nat} (h : CS g X Y q M N) {v : Int32} (o : OXv g a k v) : CS g (wI X a k v) Y q (wI M a k v) N := by
  obtain ⟨⟨h1, h2⟩, h3, h4, ⟨h5, h6⟩, h7⟩ := h
  refine ⟨⟨h1.ww a k v, h2.ww o⟩, h3, h4, ⟨?_, ?_⟩, h7⟩
  · rw [mIn (by rcases o with ⟨o1, -⟩ | o1 <;> omega)]
    exact h5
  · rw [mIn (by rcases o with ⟨o1, -⟩ | o1 <;> omega)]
    exact h6
theorem CS.wY {g : Gg} {X Y M N : Mm} {q a k : Nat} (h : CS g X Y q M N) (o : OY a k) (v : Int32) : CS g X (wI Y a k v) q M (wI N a k v) := by
  obtain ⟨h1, ⟨h2, h3⟩, h4, h5, h6, h7⟩ := h
  refine ⟨h1, ⟨h2.ww a k v, h3.ww o⟩, h4, h5, ?_, ?_⟩
  · rw [mIn (by unfold OY at o; omega)]
    exact h6
  · rw [mIn (by unfold OY at o; omega)]
    exact h7
theorem AS.wV {g : Gg} {X Y M N : Mm} {st q a k : Nat} (h : AS g X Y st q M N) {v : Int32} (o : OXv g a k v) : AS g (wI X a k v) Y st q (wI M a k v) N := by
  obtain ⟨h1, h2, h3, h4, kind, val, h5, h6, h7, h8, h9, h10, h11⟩ := h
  have e : ∀ j, 5 ≤ j → j ≤ 8 → j ≠ 7 → (wI M a k v).1 1 j = M.1 1 j := fun j q1 q2 q3 => mIn (by rcases o with ⟨o1, -⟩ | o1 <;> omega)
  exact ⟨h1.wV o, h2, by rw [e 6 (by omega) (by omega) (by omega)]; exact h3, h4, kind, val, h5, h6, h7, h8, by rw [e 5 (by omega) (by omega) (by omega)]; exact h9, h10, by rw [e 8 (by omega) (by omega) (by omega)]; exact h11⟩
theorem CS.wX {g : Gg} {X Y M N : Mm} {q a k : Nat} (h : CS g X Y q M N) (o : OX g a k) (v : Int32) : CS g (wI X a k v) Y q (wI M a k v) N := h.wV (o v)
theorem AS.wX {g : Gg} {X Y M N : Mm} {st q a k : Nat} (h : AS g X Y st q M N) (o : OX g a k) (v : Int32) : AS g (wI X a k v) Y st q (wI M a k v) N := h.wV (o v)
theorem OX.d {g : Gg} {a k : Nat} (h1 : a ≠ 1) (h2 : g.2.2.1 ≤ a) (h3 : a < g.2.2.1 + 36) (h4 : k ≠ 6 ∨ a < g.2.2.1 + 16) : OX g a k := fun _ => Or.inl ⟨h1, h2, h3, Or.inl h4⟩
theorem OX.s {g : Gg} {k : Nat} (h : k ≠ 1 ∧ k ≠ 2 ∧ k ≠ 3 ∧ k ≠ 7 ∧ k ≠ 5 ∧ k ≠ 6 ∧ k ≠ 8) : OX g 1 k := fun _ => Or.inr ⟨rfl, h⟩
theorem AS.wY {g : Gg} {X Y M N : Mm} {st q a k : Nat} (h : AS g X Y st q M N) (o : OY a k) (v : Int32) : AS g X (wI Y a k v) st q M (wI N a k v) := by
  obtain ⟨h1, h2, h3, h4, kind, val, h5, h6, h7, h8, h9, h10, h11⟩ := h
  have e : ∀ j, 19 ≤ j → (wI N a k v).1 0 j = N.1 0 j := fun j q1 => mIn (by unfold OY at o; omega)
  exact ⟨h1.wY o v, h2, h3, by rw [e 22 (by omega)]; exact h4, kind, val, h5, h6, h7, h8, h9, by rw [e 23 (by omega)]; exact h10, by rw [e 24 (by omega)]; exact h11⟩
theorem AS.vt {g : Gg} {X Y M N : Mm} {st q : Nat} (h : AS g X Y st q M N) : VT g.2.1 N := by
  obtain ⟨h1, h2, h3, h4, kind, val, h5, h6, h7, h8, h9, h10, h11⟩ := h
  intro z
  rw [h10] at z
  have : kind = 1 := (nI_eq (b := 1) (by omega) (by omega)).mp z
  exact ⟨st, q, h7 (by omega), h1.2.2.1, h4, h1.2.2.2.2.2⟩
/-- both find the fault c at the token -/
theorem AS.bad {g : Gg} {X Y M N : Mm} {st q : Nat} (h : AS g X Y st q M N) {c : Nat} (h1 : 1 ≤ c) (h6 : c ≤ 6) : f_X9_refuse M (nI c) (M.1 1 6) = some (0, wI (wI M 1 3 (nI c)) 1 4 (M.1 1 6)) ∧ f_X12_fails N (nI c) = some (wI (wI N 0 19 (nI c)) 0 20 (N.1 0 22)) ∧ FS g (wI (wI M 1 3 (nI c)) 1 4 (M.1 1 6)) (wI (wI N 0 19 (nI c)) 0 20 (N.1 0 22)) := by
  have vt := h.vt
  obtain ⟨⟨⟨a1, a2⟩, ⟨a3, a4⟩, a5, a6, a7, a8⟩, b1, b2, b3, -⟩ := h
  refine ⟨rfl, fails_0 a7, ⟨fun c h1 h2 => ?_, fun k hk => ?_⟩, ⟨?_, ⟨c, h1, h6, by simp [mI]⟩, ?_⟩, by simp [mI], by simp [mI, b2, b3]⟩
  · rw [wI_o h1, wI_o h1]
    exact (a2.o a1).1.1 c h1 h2
  · rw [wI_o (by omega), wI_o (by omega)]
    exact (a2.o a1).1.2 k hk
  · exact a4.o ((a3.w (by decide)).w (by decide))
  · unfold VT at vt ⊢
    simp only [mI]
    simpa using vt
/-- a state whose reference is broken already stays so -/
theorem tok_sim {g : Gg} (hg : OKg g) {X Y M N : Mm} {q : Nat} (C : CS g X Y q M N) : (∃ M2 N2 st q2, f_X9_readToken M = some (1, M2) ∧ f_X12_step N = some N2 ∧ q ≤ st ∧ AS g X Y st q2 M2 N2) ∨ ∃ M2 N2, f_X9_readToken M = some (0, M2) ∧ f_X12_step N = some N2 ∧ FS g M2 N2 := by
  obtain ⟨⟨a1, a2⟩, ⟨a3, a4⟩, a5, ⟨a6, a7⟩, a8, a9⟩ := C
  obtain ⟨st, sp, kind, val, k1, k2, k3, k4, k5, k6, k7, k8, k9⟩ := tok hg.1 a5
  obtain ⟨v, M2, m1, m2, m3⟩ := k8 M ((a2.o a1).tm hg) a7
  obtain ⟨N2, n1, n2, n3⟩ := k9 N ((a4.o a3).tn hg) a8 a9
  by_cases e : kind = 4
  · rcases m3 with ⟨-, rfl, m4, m5⟩ | ⟨z, -⟩
    · rcases n3 with ⟨-, n4, n5, n6⟩ | ⟨z, -⟩
      · refine Or.inr ⟨M2, N2, m1, n1, (a2.o (a1.t m2)).1, ⟨a4.o (a3.t n2), ⟨1, by decide, by decide, n4⟩, fun z => absurd z n6⟩, by rw [m4, n4], by rw [m5, n5]⟩
      · exact absurd e z
    · exact absurd e z
  · rcases m3 with ⟨z, -⟩ | ⟨-, rfl, m3, m4, m5, m6, m7⟩
    · exact absurd z e
    · rcases n3 with ⟨z, -⟩ | ⟨-, n3, n4, n5, n6, n7⟩
      · exact absurd z e
      · exact Or.inl ⟨M2, N2, st, sp, m1, n1, k1, ⟨⟨a1.t m2, a2⟩, ⟨a3.t n2, a4⟩, k3, ⟨m3.trans a6, m5⟩, n3, n5⟩, k2, m4, n4, kind, val, by omega, k7, fun z => k5 z e, k6, m6, n6, fun z => ⟨m7 z, n7 z⟩⟩
