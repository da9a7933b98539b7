-- MAKING: a world that grows
def AA (G : GG) (U : State) : Prop := ∃ kA : Class, U.vm.classes[gC G 7]? = some kA ∧ kA.kind = .array (gC G 0) (.array .int)
def KC (G : GG) (U : State) : Prop := va_K (gD G) vwCl (tyA (gC G)) U ∧ NK U ∧ va_AO RX6 U ∧ va_AO RX7 U ∧ va_AO RX8 U ∧ AA G U
theorem AA.moved {G : GG} {s U : State} (hv : s.vm.Alike U.vm) (h : AA G s) : AA G U := by
  obtain ⟨kA, h1, h2⟩ := h
  obtain ⟨kB, h3, h4⟩ := hv.2.2 _ _ h1
  exact ⟨kB, h3, by rw [h4]; exact h2⟩
theorem KC.go {G : GG} {s U : State} (h : KC G s) (hW : s.WarmedH U.vm) : KC G U :=
  ⟨va_K.moved hW.alike h.1, fun q hq => va_Nw.warmM hW (h.2.1 q hq), va_AO.moved hW.alike h.2.2.1, va_AO.moved hW.alike h.2.2.2.1, va_AO.moved hW.alike h.2.2.2.2.1, AA.moved hW.alike h.2.2.2.2.2⟩
theorem KC.calling {G : GG} {U : State} {g : JFrame} {mk : MethodId} {a : Array Value} (h : KC G U) : KC G (U.calling g mk a) := by
  have al : U.vm.Alike (U.calling g mk a).vm := Vm.Alike.refl U.vm
  exact ⟨va_K.moved al h.1, fun q hq => va_Nw.same (u := U) (U := U.calling g mk a) rfl rfl (h.2.1 q hq), va_AO.moved al h.2.2.1, va_AO.moved al h.2.2.2.1, va_AO.moved al h.2.2.2.2.1, AA.moved al h.2.2.2.2.2⟩
def Aa (G : GG) (n0 : Nat) : Nat → Prop := fun q => gB G + n0 ≤ q
def FC (s : State) (G : GG) (n0 n : Nat) (E : Nat → va_E) : Heap → List Loc → Prop := fun H locs => va_P (gD G) vwCl (cw (gB G) n0 n E) H ∧ va_S (Aa G n0) s.heap H locs
def up1 (E : Nat → va_E) (a : Nat) (x : va_E) : Nat → va_E := fun i => if i = a then x else E i
theorem up1_s (E : Nat → va_E) (a : Nat) (x : va_E) : up1 E a x a = x := if_pos rfl
theorem up1_n {E : Nat → va_E} {a i : Nat} {x : va_E} (h : i ≠ a) : up1 E a x i = E i := if_neg h
theorem cw_none {B n0 n1 : Nat} {E : Nat → va_E} {k : Nat} (h : n1 - n0 ≤ k) : (cw B n0 n1 E)[k]? = none := by
  rw [List.getElem?_eq_none_iff]
  unfold cw
  simpa using h
theorem cw_len (B n0 n1 : Nat) (E : Nat → va_E) : (cw B n0 n1 E).length = n1 - n0 := by
  unfold cw
  simp
theorem cw_snoc {B n0 n : Nat} {E : Nat → va_E} {x : va_E} (h : n0 ≤ n) : cw B n0 n E ++ [(B + n, x)] = cw B n0 (n + 1) (up1 E n x) := by
  apply List.ext_getElem?
  intro i
  by_cases hi : i < n - n0
  · have e1 := cw_at (B := B) (E := E) (a := n0 + i) (n0 := n0) (n1 := n) (by omega) (by omega)
    have e2 := cw_at (B := B) (E := up1 E n x) (a := n0 + i) (n0 := n0) (n1 := n + 1) (by omega) (by omega)
    rw [show n0 + i - n0 = i by omega] at e1 e2
    rw [List.getElem?_append_left (by rw [cw_len]; exact hi), e1, e2, up1_n (by omega)]
  · by_cases h2 : i = n - n0
    · subst h2
      rw [List.getElem?_append_right (by rw [cw_len]; exact Nat.le_refl _), cw_len, Nat.sub_self, cw_at h (Nat.lt_succ_self n), up1_s]
      rfl
    · rw [List.getElem?_append_right (by rw [cw_len]; omega), cw_len, cw_none (by omega), List.getElem?_eq_none_iff]
      simp
      omega
theorem cw_c {B n0 n : Nat} {E E' : Nat → va_E} (h : ∀ i, n0 ≤ i → i < n → E i = E' i) : cw B n0 n E = cw B n0 n E' := by
  apply List.ext_getElem?
  intro i
  by_cases hi : i < n - n0
  · have e1 := cw_at (B := B) (E := E) (a := n0 + i) (n0 := n0) (n1 := n) (by omega) (by omega)
    have e2 := cw_at (B := B) (E := E') (a := n0 + i) (n0 := n0) (n1 := n) (by omega) (by omega)
    rw [show n0 + i - n0 = i by omega] at e1 e2
    rw [e1, e2, h _ (by omega) (by omega)]
  · rw [cw_none (by omega), cw_none (by omega)]
theorem cw_app {B n0 n1 n2 : Nat} {E : Nat → va_E} (h0 : n0 ≤ n1) (h1 : n1 ≤ n2) : cw B n0 n1 E ++ cw B n1 n2 E = cw B n0 n2 E := by
  apply List.ext_getElem?
  intro i
  by_cases hi : i < n1 - n0
  · have e1 := cw_at (B := B) (E := E) (a := n0 + i) (n0 := n0) (n1 := n1) (by omega) (by omega)
    have e2 := cw_at (B := B) (E := E) (a := n0 + i) (n0 := n0) (n1 := n2) (by omega) (by omega)
    rw [show n0 + i - n0 = i by omega] at e1 e2
    rw [List.getElem?_append_left (by rw [cw_len]; exact hi), e1, e2]
  · rw [List.getElem?_append_right (by rw [cw_len]; omega), cw_len]
    by_cases h2 : i < n2 - n0
    · have e1 := cw_at (B := B) (E := E) (a := n0 + i) (n0 := n1) (n1 := n2) (by omega) (by omega)
      have e2 := cw_at (B := B) (E := E) (a := n0 + i) (n0 := n0) (n1 := n2) (by omega) (by omega)
      rw [show n0 + i - n0 = i by omega] at e2
      rw [show n0 + i - n1 = i - (n1 - n0) by omega] at e1
      rw [e1, e2]
    · rw [cw_none (by omega), cw_none (by omega)]
theorem FC.c {s : State} {G : GG} {n0 n : Nat} {E E' : Nat → va_E} (h : ∀ i, n0 ≤ i → i < n → E i = E' i) (H : Heap) (locs : List Loc) (hF : FC s G n0 n E H locs) : FC s G n0 n E' H locs := by
  unfold FC at *
  rw [← cw_c h]
  exact hF
def CNq (G : GG) (a k : Nat) (E1 : Nat → va_E) : Array Value → State → Outcome → State → Prop := fun _ st oc t => oc = .returned none ∧ va_P (gD G) vwCl (cw (gB G) a (a + k + 1) E1) t.heap ∧ va_F (Aa G a) st t
def CNp (G : GG) (a : Nat) (E0 : va_E) : Array Value → State → Prop := va_Pc [.ref (gB G + a)] (fun U => va_P (gD G) vwCl (cw (gB G) a (a + 1) (fun _ => E0)) U.heap ∧ U.heap.size = gB G + (a + 1) ∧ KC G U)
theorem CNp_blind {G : GG} {a : Nat} {E0 : va_E} : FrameBlind (CNp G a E0) := fun _ _ _ _ h => ⟨h.1, h.2.1, h.2.2.1, h.2.2.2.calling⟩
/-- A CONSTRUCTOR: the cell a stands, blank; behind it the cells a to a + k hold E1 -/
def CN (l : Launch) (G : GG) (y : MethodName) (cc : ByteArray) (nL fr lo k sl a : Nat) (E0 : va_E) (E1 : Nat → va_E) : Prop :=
  Met l y (.code y cc nL none :: TB) { frames := fr, cells := k, slots := sl, locals := lo } (CNp G a E0) (CNq G a k E1) k sl (Aa G a)
theorem CN.of {l : Launch} {G : GG} {y : MethodName} {cc : ByteArray} {nL fr lo k sl a : Nat} {E0 : va_E} {E1 : Nat → va_E} (hy : plainName y.cls = true) (hnm : y.name = "<init>") (hn : 1 ≤ nL)
    (body : ∀ (p : Program) (e : Env) (s : State) (m : MethodId) (args : Array Value) (below : List Frame) (meth : Method) (c : Code), GX p s m args c cc nL y.cls → KC G s → s.heap.size = gB G + (a + 1) → meth.locks = false → meth.sig.returnType = none → meth.name = "<init>" →
      Zg p l e { frames := fr, cells := k, slots := sl, locals := lo } s m args below meth c nL (MQ below (CNq G a k E1) args s k sl (Aa G a)) 0 0 (FC s G a (a + 1) (fun _ => E0)) 0 [(0, .ref (gB G + a))] []) : CN l G y cc nL fr lo k sl a E0 E1 := by
  refine Met.ofW (cc := cc) (maxL := nL) (ret := none) hy rfl ?_
  intro p e s m args below meth c s₁ B hml hv
  obtain ⟨rfl, hP, hz, hK⟩ := hv
  have hts := atoms_spec (ws := .code y cc nL none :: TB) B.pre
  rw [lg_entry_eq]
  exact body p e s m _ below meth c ⟨B.exec, B.bytes, hml, findClass_of_methodNamed B.named, fun w hw => hts w (List.mem_cons_of_mem _ hw)⟩ hK hz B.notSynchronized B.returns ((name_of_methodNamed B.named B.method).1.trans hnm) s.heap [] _ ⟨hP, va_S.rf⟩ (lv_entry _ hn)
theorem W.sz {p : Program} {l : Launch} {e : Env} {R : Room} {s : State} {m : MethodId} {args : Array Value} {below : List Frame} {meth : Method} {c : Code} {H : Heap} {locs : List Loc} {cells slots : Nat} {Q : State → Prop} {g : JFrame} (k : H.size ≤ s.heap.size + cells → W p l e R s m args below meth c H locs cells slots Q g) : W p l e R s m args below meth c H locs cells slots Q g :=
  fun T hT X => k (by have h := X.same.2.2.1; rw [← hT]; exact h) T hT X
theorem FC.lo {s : State} {G : GG} {n0 n : Nat} {E : Nat → va_E} {H : Heap} {locs : List Loc} (hF : FC s G n0 n E H locs) (hz : gB G + n0 ≤ s.heap.size) (hn : n0 ≤ n) : gB G + n ≤ H.size := by
  by_cases h : n = n0
  · subst h
    exact Nat.le_trans hz hF.2.1
  · have h1 := (hF.1 (n - 1 - n0) _ (cw_at (show n0 ≤ n - 1 by omega) (show n - 1 < n by omega))).lt
    have h2 : gB G + (n - 1) < H.size := h1
    omega
