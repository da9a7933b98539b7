def jn (E : Nat → va_E) (a : Nat) (E1 : Nat → va_E) : Nat → va_E := fun i => if i < a then E i else E1 i
theorem jn_lt {E E1 : Nat → va_E} {a i : Nat} (h : i < a) : jn E a E1 i = E i := if_pos h
theorem jn_ge {E E1 : Nat → va_E} {a i : Nat} (h : a ≤ i) : jn E a E1 i = E1 i := if_neg (by omega)
section ZE
variable {p : Program} {l : Launch} {e : Env} {R : Room} {s : State} {m : MethodId} {args : Array Value} {below : List Frame} {meth : Method} {c : Code} {nL cells slots : Nat} {Q : State → Prop} {G : GG} {n0 : Nat} {E : Nat → va_E} {pc pc' : Nat} {L L' : List (Nat × Value)} {S S0 : List Value} {cc : ByteArray} {own : String}
variable {y : MethodName} {bytes : ByteArray} {maxL fr lo k sl a idx : Nat} {E0 : va_E} {E1 : Nat → va_E}
theorem k_cont {H : Heap} {locs : List Loc} {ls : Array Slot} {S1 : List Value} {aa : Array Value} (ha : n0 ≤ a) (hF : FC s G n0 (a + 1) E H locs) (hl : lv_has ls nL L) (hr : va_Run p l e R s m args below meth c H locs cells slots k sl (F0 m pc ls S1) S (CNq G a k E1 aa) (Aa G a))
    (h : Zg p l e R s m args below meth c nL Q (cells + k) (slots + sl) (FC s G n0 (a + k + 1) (jn E a E1)) (pc + 3) L S) : W p l e R s m args below meth c H locs cells slots Q (F0 m pc ls S1) := by
  intro T hT X
  obtain ⟨v, st₀, t, T', L9, h0, X', hL, e1, e2, ⟨hv, hP2, hz, hk⟩, st⟩ := hr T hT X
  cases hv
  rw [h0] at hz hk
  obtain ⟨hP, hS⟩ := hF
  have sub : ∀ q, Aa G a q → Aa G n0 q := fun q hq => by
    have : gB G + a ≤ q := hq
    show gB G + n0 ≤ q
    omega
  have hS2 : va_S (Aa G n0) s.heap T'.heap (locs ++ L9) := ⟨Nat.le_trans hS.1 (by rw [e1]; exact hz), fun q h1 h2 => by rw [e1, hk q (Nat.lt_of_lt_of_le h1 hS.1) (fun z => h2 (sub q z))]; exact hS.2.1 q h1 h2, fun q hq => by
      rcases List.mem_append.mp hq with h | h
      · exact hS.2.2 q h
      · exact sub _ (hL q h)⟩
  have hP3 : va_P (gD G) vwCl (cw (gB G) n0 (a + k + 1) (jn E a E1)) T'.heap := by
    rw [← cw_app (n1 := a) ha (by omega)]
    refine va_P.app ?_ ?_
    · rw [cw_c (E := jn E a E1) (E' := E) (fun i _ hi => jn_lt hi)]
      refine va_P.kept (H := H) (fun j x hx => ?_) (fun j x hx => ?_)
      · obtain ⟨q1, rfl⟩ := cw_key hx
        exact hP j _ (by have := cw_at (B := gB G) (E := E) (a := n0 + j) (n0 := n0) (n1 := a + 1) (by omega) (by omega); rw [show n0 + j - n0 = j by omega] at this; exact this)
      · obtain ⟨q1, rfl⟩ := cw_key hx
        have lt : gB G + (n0 + j) < H.size := (hP j _ (by have := cw_at (B := gB G) (E := E) (a := n0 + j) (n0 := n0) (n1 := a + 1) (by omega) (by omega); rw [show n0 + j - n0 = j by omega] at this; exact this)).lt
        show T'.heap[gB G + (n0 + j)]? = _
        rw [e1]
        refine hk _ lt (fun z => ?_)
        have : gB G + a ≤ gB G + (n0 + j) := z
        omega
    · rw [cw_c (E := jn E a E1) (E' := E1) (fun i hi _ => jn_ge hi), e1]
      exact hP2
  obtain ⟨t2, a1, b1⟩ := h T'.heap (locs ++ L9) ls ⟨hP3, hS2⟩ hl T' rfl X'
  exact ⟨t2, st t2 a1, b1⟩
theorem k_pre {H U : Heap} {locs : List Loc} (ha : n0 ≤ a) (hF : FC s G n0 (a + 1) E H locs) (hE : E a = E0) (hU : U = H) : va_P (gD G) vwCl (cw (gB G) a (a + 1) (fun _ => E0)) U := by
  intro j x hx
  obtain ⟨q1, rfl⟩ := cw_key hx
  obtain rfl : j = 0 := by omega
  have := hF.1 (a - n0) _ (cw_at (B := gB G) (E := E) ha (Nat.lt_succ_self a))
  rw [hE] at this
  rw [hU]
  exact this
/-- a constructor of one's own package -/
theorem k_cI (C : GX p s m args c cc nL own) (K : KC G s) (hM : CN l G y bytes maxL fr lo k sl a E0 E1) (ha : n0 ≤ a) (hz0 : gB G + n0 ≤ s.heap.size) (hzc : s.heap.size + cells = gB G + (a + 1)) (hE : E a = E0) (w1 : Cond.code y bytes maxL none ∈ TB) (w2 : Cond.methodLink own idx y ∈ TB) (w3 : Cond.instanceMethod y ∈ TB) (w5 : Cond.initialized y.cls ∈ TB) (hnm : y.name = "<init>")
    (hy : y.cls ≠ "java/lang/invoke/MethodHandle" ∧ y.cls ≠ "java/lang/invoke/VarHandle" ∧ (parseMethodDescriptor y.desc).map (fun d => d.parameters.length) = some 0) (hR : fr + 1 ≤ R.frames ∧ 8 + (maxL + 11) + lo ≤ R.locals) (hW : (S.map fun v => v.category).sum ≤ 8) (hcs : cells + k ≤ R.cells ∧ slots + sl ≤ R.slots) (hd : DD cc pc (.invokespecial idx) 3 pc')
    (h : Zg p l e R s m args below meth c nL Q (cells + k) (slots + sl) (FC s G n0 (a + k + 1) (jn E a E1)) pc' L S) : Zg p l e R s m args below meth c nL Q cells slots (FC s G n0 (a + 1) E) pc L (.ref (gB G + a) :: S) := by
  obtain ⟨d, rfl⟩ := hd
  intro H locs ls hF hl
  refine W.sz fun hsz => ?_
  have hz : H.size = gB G + (a + 1) := Nat.le_antisymm (by omega) (hF.lo hz0 (by omega))
  have ht := C.2.2.2.2
  exact k_cont ha hF hl (va_runI (As := []) (rest := S) (b := gB G + a) (nL := nL) ⟨C.1, C.2.1, C.2.2.1, C.2.2.2.1, ht⟩ hM (cwI 0 ht (TB_call w1) rfl rfl rfl (ht _ w5) (ht _ w2) (ht _ w3) hnm hy hR) ⟨CNp_blind, fun U hU hW => ⟨rfl, k_pre ha hF hE hU, by rw [hU]; exact hz, K.go hW⟩⟩ rfl rfl hl.1 rfl (lv_room hW) d hcs) h
/-- a nest mate's -/
theorem k_cN {host : String} (C : GX p s m args c cc nL own) (K : KC G s) (hM : CN l G y bytes maxL fr lo k sl a E0 E1) (ha : n0 ≤ a) (hz0 : gB G + n0 ≤ s.heap.size) (hzc : s.heap.size + cells = gB G + (a + 1)) (hE : E a = E0) (w1 : Cond.code y bytes maxL none ∈ TB) (w2 : (own, idx, y, host) ∈ nestL) (w3 : Cond.instanceMethod y ∈ TB) (w5 : Cond.initialized y.cls ∈ TB) (hnm : y.name = "<init>")
    (hy : y.cls ≠ "java/lang/invoke/MethodHandle" ∧ y.cls ≠ "java/lang/invoke/VarHandle" ∧ (parseMethodDescriptor y.desc).map (fun d => d.parameters.length) = some 0) (hR : fr + 1 ≤ R.frames ∧ 8 + (maxL + 11) + lo ≤ R.locals) (hW : (S.map fun v => v.category).sum ≤ 8) (hcs : cells + k ≤ R.cells ∧ slots + sl ≤ R.slots) (hd : DD cc pc (.invokespecial idx) 3 pc')
    (h : Zg p l e R s m args below meth c nL Q (cells + k) (slots + sl) (FC s G n0 (a + k + 1) (jn E a E1)) pc' L S) : Zg p l e R s m args below meth c nL Q cells slots (FC s G n0 (a + 1) E) pc L (.ref (gB G + a) :: S) := by
  obtain ⟨d, rfl⟩ := hd
  intro H locs ls hF hl
  refine W.sz fun hsz => ?_
  have hz : H.size = gB G + (a + 1) := Nat.le_antisymm (by omega) (hF.lo hz0 (by omega))
  have ht := C.2.2.2.2
  exact k_cont ha hF hl (va_runIN (As := []) (rest := S) (b := gB G + a) (nL := nL) (host := host) ⟨C.1, C.2.1, C.2.2.1, C.2.2.2.1, ht⟩ hM ⟨va_cnB 0 ht (TB_call w1) rfl rfl rfl (K.2.1 _ w2) (ht _ w5) hy hR, hnm, ht _ w3⟩ ⟨CNp_blind, fun U hU hW => ⟨rfl, k_pre ha hF hE hU, by rw [hU]; exact hz, K.go hW⟩⟩ rfl rfl hl.1 rfl (lv_room hW) d hcs) h
end ZE
