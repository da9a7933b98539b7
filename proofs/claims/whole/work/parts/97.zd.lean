section ZD
variable {p : Program} {l : Launch} {e : Env} {R : Room} {s : State} {m : MethodId} {args : Array Value} {below : List Frame} {meth : Method} {c : Code} {nL cells slots : Nat} {Q : State → Prop} {G : GG} {n0 n : Nat} {E : Nat → va_E} {pc pc' : Nat} {L L' : List (Nat × Value)} {S S0 : List Value} {cc : ByteArray} {own : String}
theorem k_obj {F : Heap → List Loc → Prop} {idx a : Nat} (C : GX p s m args c cc nL own) (w1 : Cond.methodLink own idx Lib.objectInit ∈ TB) (w2 : Cond.instanceMethod Lib.objectInit ∈ TB) (w3 : Cond.code Lib.objectInit ⟨#[0xb1]⟩ 1 none ∈ TB) (hf : 1 ≤ R.frames) (ho : (S.map fun v => v.category).sum + 12 ≤ R.locals) (hd : DD cc pc (.invokespecial idx) 3 pc')
    (h : Zg p l e R s m args below meth c nL Q cells slots F pc' L S) : Zg p l e R s m args below meth c nL Q cells slots F pc L (.ref a :: S) := by
  obtain ⟨d, rfl⟩ := hd
  intro H locs ls hF hl
  have ht := C.2.2.2.2
  exact W.objInit C.1 C.2.1 C.2.2.2.1 (ht _ w1) (ht _ w2) (ht _ w3) (g := F0 m pc ls (.ref a :: S)) rfl (by rw [C.2.2.1]; exact hl.1) rfl d hf (by show 2 * 0 + _ + 12 ≤ _; omega) (h H locs ls hF hl)
theorem FC.push {x : va_E} {H H1 : Heap} {locs : List Loc} (hn : n0 ≤ n) (hF : FC s G n0 n E H locs) (hz : H1.size = H.size + 1) (ho : ∀ q, q < H.size → H1[q]? = H[q]?) (hx : va_at (gD G) vwCl (gB G + n, x) H1) : FC s G n0 (n + 1) (up1 E n x) H1 locs := by
  obtain ⟨h1, h3⟩ := hF
  refine ⟨?_, ⟨by rw [hz]; exact Nat.le_trans h3.1 (Nat.le_succ _), fun q q1 q2 => (ho q (Nat.lt_of_lt_of_le q1 h3.1)).trans (h3.2.1 q q1 q2), h3.2.2⟩⟩
  rw [← cw_snoc hn]
  refine va_P.app (va_P.kept h1 (fun k y hy => ho _ (h1 k y hy).lt)) (fun k y hy => ?_)
  have hk : k < 1 := (List.getElem?_eq_some_iff.mp hy).1
  rw [show k = 0 by omega] at hy
  cases hy
  exact hx
theorem k_newa {atype : ArrayType} {ty : FieldType} {t N : Nat} {v : Int32} {a0 : vp_A} (C : GX p s m args c cc nL own) (K : KC G s) (hz0 : gB G + n0 ≤ s.heap.size) (hn : n0 ≤ n) (hzc : s.heap.size + cells = gB G + n) (harr : Cond.arrayClass (newarray.typeOf atype) ∈ TB) (hty : newarray.typeOf atype = ty) (ht : (tyA (gC G))[t]? = some (gC G t, ty)) (hra : ∀ U cA, va_RA U cA ty → U.vm.findClass ("[" ++ ty.toString) = some cA) (ha : ∀ cA : ClassId, vp_cell cA a0 = arrV cA N (fun _ => defaultValue ty)) (hv : ¬ v < 0) (hN : v.toNatClampNeg = N) (hb : N * componentBytes ty ≤ 536870912) (hc : cells + 1 ≤ R.cells) (hs : slots + N ≤ R.slots) (hd : DD cc pc (.newarray atype) 2 pc')
    (h : Zg p l e R s m args below meth c nL Q (cells + 1) (slots + N) (FC s G n0 (n + 1) (up1 E n (.inl (gC G t, a0)))) pc' L (.ref (gB G + n) :: S)) : Zg p l e R s m args below meth c nL Q cells slots (FC s G n0 n E) pc L (.int v :: S) := by
  obtain ⟨d, rfl⟩ := hd
  subst hty
  intro H locs ls hF hl
  refine W.sz fun hsz => ?_
  have hz : H.size = gB G + n := Nat.le_antisymm (by omega) (hF.lo hz0 hn)
  refine va_newaK C.1 C.2.1 (C.2.2.2.2 _ harr) (g := F0 m pc ls (.int v :: S)) rfl d rfl hv hN hb hc hs hz fun H1 cA e1 z1 o1 hAr hNm => ?_
  have ec : cA = gC G t := Option.some.inj (hNm.symm.trans (hra _ _ (K.1.2 t _ ht).2))
  refine h H1 locs ls (hF.push hn (by rw [z1, hz]) (fun q hq => o1 q (by rw [← hz]; exact hq)) ?_) hl
  show H1[gB G + n]? = some (vp_cell (gC G t) a0)
  rw [ha, ← ec]
  exact e1
theorem k_anew {Cn : String} {idx t N : Nat} {v : Int32} (C : GX p s m args c cc nL own) (K : KC G s) (hz0 : gB G + n0 ≤ s.heap.size) (hn : n0 ≤ n) (hzc : s.heap.size + cells = gB G + n) (w1 : Cond.classLink own idx Cn ∈ TB) (hover : va_AO Cn s) (ht : (tyA (gC G))[t]? = some (gC G t, .object Cn)) (hv : ¬ v < 0) (hN : v.toNatClampNeg = N) (hb : N * 4 ≤ 536870912) (hc : cells + 1 ≤ R.cells) (hs : slots + N ≤ R.slots) (hd : DD cc pc (.anewarray idx) 3 pc')
    (h : Zg p l e R s m args below meth c nL Q (cells + 1) (slots + N) (FC s G n0 (n + 1) (up1 E n (.inl (gC G t, N, .inr (.inr (.inr (.inr (fun _ => none)))))))) pc' L (.ref (gB G + n) :: S)) : Zg p l e R s m args below meth c nL Q cells slots (FC s G n0 n E) pc L (.int v :: S) := by
  obtain ⟨d, rfl⟩ := hd
  subst hN
  intro H locs ls hF hl
  refine W.sz fun hsz => ?_
  have hz : H.size = gB G + n := Nat.le_antisymm (by omega) (hF.lo hz0 hn)
  refine W.anew C.1 C.2.1 C.2.2.2.1 (C.2.2.2.2 _ w1) (va_AO.use hover) (g := F0 m pc ls (.int v :: S)) rfl d rfl hv hb hc hs fun cA kA comp f1 f2 f3 f4 => ?_
  have ec : cA = gC G t := by
    obtain ⟨k2, c2, g1, g2, g3, g4⟩ := (K.1.2 t _ ht).2
    exact Option.some.inj (f1.symm.trans g4)
  generalize hH1 : H.push ({ cls := cA, slots := Array.replicate v.toNatClampNeg .null, vm := .none } : Cell) = H1
  have z1 : H1.size = H.size + 1 := by rw [← hH1, Array.size_push]
  have e1 : H1[H.size]? = some (arrV cA v.toNatClampNeg (fun _ => .null)) := by rw [← hH1, Array.getElem?_push_size, ← arrV_new]
  have o1 : ∀ q : Nat, q < H.size → H1[q]? = H[q]? := fun q hq => by rw [← hH1, Array.getElem?_push, if_neg (Nat.ne_of_lt hq)]
  have hr : F0 m (pc + 3) ls (.ref H.size :: S) = F0 m (pc + 3) ls (.ref (gB G + n) :: S) := by rw [hz]
  have goal := h H1 locs ls (hF.push hn z1 o1 (by
    show H1[gB G + n]? = some (vp_cell (gC G t) _)
    rw [vp_cell_q, ← hz, ← ec]
    exact e1)) hl
  rw [← hr] at goal
  exact goal
theorem k_new {Cn : String} {T : u_T} {N ci idx : Nat} {fs : List Value} (C : GX p s m args c cc nL own) (K : va_K (gD G) vwCl (tyA (gC G)) s) (hz0 : gB G + n0 ≤ s.heap.size) (hn : n0 ≤ n) (hzc : s.heap.size + cells = gB G + n) (hin : ∀ w ∈ u_ws Cn T N, w ∈ TB) (ty : Nat → FieldType) (hty : ∀ k, k < N → parseFieldDescriptor (T k).2.2.1 = some (ty k)) (w1 : Cond.classLink own idx Cn ∈ TB) (w2 : Cond.instantiable Cn N ∈ TB) (w3 : Cond.initialized Cn ∈ TB) (hc0 : vwCl[ci]? = some (Cn, T, N)) (hfs : ∀ j, j < N → defaultValue (ty j) = vp_V fs j) (hc : cells + 1 ≤ R.cells) (hs : slots + N ≤ R.slots) (hd : DD cc pc (.new idx) 3 pc')
    (h : Zg p l e R s m args below meth c nL Q (cells + 1) (slots + N) (FC s G n0 (n + 1) (up1 E n (.inr (ci, fs)))) pc' L (.ref (gB G + n) :: S)) : Zg p l e R s m args below meth c nL Q cells slots (FC s G n0 n E) pc L S := by
  obtain ⟨d, rfl⟩ := hd
  intro H locs ls hF hl
  refine W.sz fun hsz => ?_
  have hz : H.size = gB G + n := Nat.le_antisymm (by omega) (hF.lo hz0 hn)
  have ht := C.2.2.2.2
  have hKn := K.1 ci _ hc0
  refine W.newcK C.1 C.2.1 C.2.2.2.1 (ht _ w1) (ht _ w2) (ht _ w3) (g := F0 m pc ls S) rfl d hc hs hKn.2.1 hz fun H1 kC hkC e1 z1 o1 => ?_
  exact h H1 locs ls (hF.push hn (by rw [z1, hz]) (fun q hq => o1 q (by rw [← hz]; exact hq)) ⟨_, hc0, (u_born ty ht hin hKn hkC e1 hty).to hfs⟩) hl
theorem FC.d (hF : True) : va_D (Aa G n0) (cw (gB G) n0 n E) := ⟨(cw_D (B := gB G) (n0 := n0) (n1 := n) (E := E)).1, fun k q hq => (cw_D.2 k q hq).1⟩
theorem cw_up {a : Nat} {x : va_E} (ha : n0 ≤ a) : (cw (gB G) n0 n E).set (a - n0) (gB G + a, x) = cw (gB G) n0 n (up1 E a x) := cw_set ha (fun b hb => up1_n hb) (up1_s _ _ _)
theorem k_put {a : Nat} {Cn : String} {T : u_T} {N ci idx k : Nat} {fs : List Value} {v : Value} {ty : FieldType} (C : GX p s m args c cc nL own) (K : va_K (gD G) vwCl (tyA (gC G)) s) (ha0 : n0 ≤ a) (ha : a < n) (hE : E a = .inr (ci, fs)) (hc : vwCl[ci]? = some (Cn, T, N)) (hin : ∀ w ∈ u_ws Cn T N, w ∈ TB) (ty0 : Nat → FieldType) (hty : ∀ k, k < N → parseFieldDescriptor (T k).2.2.1 = some (ty0 k)) (hnm : ∀ a, a < N → ∀ b, b < N → a ≠ b → (T a).2.1 ≠ (T b).2.1) (hk : k < N) (hw : Cond.fieldLink own idx (T k).1 (T k).2.1 (T k).2.2.1 ∈ TB) (hfin : (T k).2.2.2 = false ∨ (T k).2.2.2 = true ∧ meth.name = "<init>" ∧ (T k).1 = own) (hd0 : parseFieldDescriptor (T k).2.2.1 = some ty) (hn : narrow ty v = v) (hfit : fits ty v = true) (hl0 : k < fs.length) (hd : DD cc pc (.putfield idx) 3 pc')
    (h : Zg p l e R s m args below meth c nL Q cells slots (FC s G n0 n (up1 E a (.inr (ci, fs.set k v)))) pc' L S) : Zg p l e R s m args below meth c nL Q cells slots (FC s G n0 n E) pc L (v :: .ref (gB G + a) :: S) := by
  obtain ⟨d, rfl⟩ := hd
  intro H locs ls hF hl
  have he : (cw (gB G) n0 n E)[a - n0]? = some (gB G + a, .inr (ci, fs)) := (cw_at ha0 ha).trans (by rw [hE])
  rcases hfin with hfin | ⟨hfin, h5, h6⟩
  · refine va_put (ws := cw (gB G) n0 n E) (fs := fs) C.1 C.2.1 C.2.2.2.2 hin ty0 hty hnm C.2.2.2.1 K hF.1 (FC.d trivial) hF.2 (a - n0) he hc k hk (C.2.2.2.2 _ hw) (fun _ h9 => h9) hfin hd0 hn hfit hl0 d (fun H1 locs1 hP1 _ hS1 => ?_)
    rw [cw_up ha0] at hP1
    exact h H1 locs1 ls ⟨hP1, hS1⟩ hl
  · refine va_putF (ws := cw (gB G) n0 n E) (fs := fs) C.1 C.2.1 C.2.2.2.2 hin ty0 hty hnm C.2.2.2.1 K hF.1 (FC.d trivial) hF.2 (a - n0) he hc k hk (C.2.2.2.2 _ hw) (fun _ h9 => h9) hfin h5 h6 hd0 hn hfit hl0 d (fun H1 locs1 hP1 _ hS1 => ?_)
    rw [cw_up ha0] at hP1
    exact h H1 locs1 ls ⟨hP1, hS1⟩ hl
theorem k_get {a : Nat} {Cn : String} {T : u_T} {N ci idx k : Nat} {fs : List Value} {v : Value} (C : GX p s m args c cc nL own) (K : va_K (gD G) vwCl (tyA (gC G)) s) (ha0 : n0 ≤ a) (ha : a < n) (hE : E a = .inr (ci, fs)) (hc : vwCl[ci]? = some (Cn, T, N)) (hin : ∀ w ∈ u_ws Cn T N, w ∈ TB) (hk : k < N) (hw : Cond.fieldLink own idx (T k).1 (T k).2.1 (T k).2.2.1 ∈ TB) (hv : fs[k]? = some v) (hd : DD cc pc (.getfield idx) 3 pc')
    (h : Zg p l e R s m args below meth c nL Q cells slots (FC s G n0 n E) pc' L (v :: S)) : Zg p l e R s m args below meth c nL Q cells slots (FC s G n0 n E) pc L (.ref (gB G + a) :: S) := by
  obtain ⟨d, rfl⟩ := hd
  intro H locs ls hF hl
  exact va_get (ws := cw (gB G) n0 n E) (fs := fs) C.1 C.2.1 C.2.2.2.2 hin C.2.2.2.1 K hF.1 (a - n0) ((cw_at ha0 ha).trans (by rw [hE])) hc k hk (C.2.2.2.2 _ hw) (fun _ h9 => h9) hv d (h H locs ls hF hl)
theorem k_ast {a b t ci N : Nat} {i : Int32} {r : vw_C} {f : Nat → Option Nat} {vs : List Value} (C : GX p s m args c cc nL own) (K : va_K (gD G) vwCl (tyA (gC G)) s) (ha0 : n0 ≤ a) (ha : a < n) (hE : E a = .inl (gC G t, N, .inr (.inr (.inr (.inr f))))) (ht : (tyA (gC G))[t]? = some (gC G t, .object r.1)) (hb0 : n0 ≤ b) (hb : b < n) (hEb : E b = .inr (ci, vs)) (hc : vwCl[ci]? = some r) (hi : vp_in i N) (hd : DD cc pc .aastore 1 pc')
    (h : Zg p l e R s m args below meth c nL Q cells slots (FC s G n0 n (up1 E a (.inl (gC G t, N, .inr (.inr (.inr (.inr (va_up f i.toNatClampNeg (some (gB G + b)))))))))) pc' L S) : Zg p l e R s m args below meth c nL Q cells slots (FC s G n0 n E) pc L (.ref (gB G + b) :: .int i :: .ref (gB G + a) :: S) := by
  obtain ⟨d, rfl⟩ := hd
  intro H locs ls hF hl
  refine va_astq (ws := cw (gB G) n0 n E) (r := r) C.1 C.2.1 K hF.1 (FC.d trivial) hF.2 (a - n0) t (b - n0) ci ((cw_at ha0 ha).trans (by rw [hE])) ht ((cw_at hb0 hb).trans (by rw [hEb])) hc hi d (fun H1 locs1 hP1 _ hS1 => ?_)
  rw [cw_up ha0] at hP1
  exact h H1 locs1 ls ⟨hP1, hS1⟩ hl
theorem k_iast {a N : Nat} {i x : Int32} {f : Nat → Int32} (C : GX p s m args c cc nL own) (K : va_K (gD G) vwCl (tyA (gC G)) s) (ha0 : n0 ≤ a) (ha : a < n) (hE : E a = .inl (gC G 0, N, .inl f)) (hi : vp_in i N) (hd : DD cc pc .iastore 1 pc')
    (h : Zg p l e R s m args below meth c nL Q cells slots (FC s G n0 n (up1 E a (.inl (gC G 0, N, .inl (upd f i.toNatClampNeg x))))) pc' L S) : Zg p l e R s m args below meth c nL Q cells slots (FC s G n0 n E) pc L (.int x :: .int i :: .ref (gB G + a) :: S) := by
  obtain ⟨d, rfl⟩ := hd
  intro H locs ls hF hl
  refine va_iast (ws := cw (gB G) n0 n E) C.1 C.2.1 K hF.1 (FC.d trivial) hF.2 (a - n0) 0 ((cw_at ha0 ha).trans (by rw [hE])) rfl hi d (fun H1 locs1 hP1 _ hS1 => ?_)
  rw [cw_up ha0] at hP1
  exact h H1 locs1 ls ⟨hP1, hS1⟩ hl
/-- the end of a constructor -/
theorem k_vret {a k sl : Nat} {E1 : Nat → va_E} (C : GX p s m args c cc nL own) (hlk : meth.locks = false) (hr : meth.sig.returnType = none) (hn : n = a + k + 1) (hE : ∀ i, a ≤ i → i < n → E i = E1 i) (hk : cells = k) (hsl : slots = sl) (hd : DD cc pc .return_ 1 pc') : Zg p l e R s m args below meth c nL (MQ below (CNq G a k E1) args s k sl (Aa G a)) cells slots (FC s G a n E) pc L [] := by
  obtain ⟨d, rfl⟩ := hd
  subst hk hsl hn
  intro H locs ls hF hl
  exact W.vret C.1 C.2.1 hr (fun t ht _ => ⟨rfl, by rw [ht, ← cw_c hE]; exact hF.1, hF.2.F ht⟩) hF.2.2.2 d hlk
end ZD
