-- THE LAW: two worlds side by side
def A9 (s : State) : Nat → Prop := fun q => s.heap.size ≤ q
def FL (s : State) (G G1 : GG) (M N : Mm) : Heap → List Loc → Prop := fun H locs => Rp 0 G M H ∧ Rp 1 G1 N H ∧ va_S (A9 s) s.heap H locs
/-- where the two worlds lie -/
def LG (s : State) (G G1 : GG) : Prop := gB G = s.heap.size ∧ gB G1 = s.heap.size + 213 ∧ KK 0 G s ∧ KK 1 G1 s
theorem Rp.lt {u : Nat} {G : GG} {M : Mm} {H : Heap} (h : Rp u G M H) {a : Nat} (ha : inW u a) : gB G + a < H.size := (h (a - wlo u) _ (cw_at ha.1 ha.2)).lt
theorem Rp.kept {u : Nat} {G : GG} {M : Mm} {H H1 : Heap} (h : Rp u G M H) (hk : ∀ q, q < H.size → gB G + wlo u ≤ q → q < gB G + whi u → H1[q]? = H[q]?) : Rp u G M H1 := by
  refine va_P.kept h (fun k x hx => ?_)
  obtain ⟨h1, rfl⟩ := cw_key hx
  exact hk _ (h.lt (a := wlo u + k) ⟨by omega, h1⟩) (by show gB G + wlo u ≤ gB G + (wlo u + k); omega) (by show gB G + (wlo u + k) < gB G + whi u; omega)
theorem KK.law {u : Nat} {G : GG} {s U : State} {H : Heap} {locs : List Loc} (h : KK u G s) (hS : va_S (A9 s) s.heap H locs) (hW : s.WarmedH U.vm) (hU : U.heap = H) : KK u G U :=
  KK.go (locs := []) h ⟨hS.1, fun q h1 _ => hS.2.1 q h1 (Nat.not_le.mpr h1), fun _ hq => absurd hq (by simp)⟩ hW hU
section ZL
variable {p : Program} {l : Launch} {e : Env} {R : Room} {s : State} {m : MethodId} {args : Array Value} {below : List Frame} {meth : Method} {c : Code} {nL cells slots : Nat} {Q : State → Prop} {G G1 : GG} {M N M2 N2 : Mm} {pc pc' : Nat} {L L' : List (Nat × Value)} {S S0 As : List Value} {cc : ByteArray} {own : String}
variable {y : MethodName} {bytes : ByteArray} {maxL n idx fr lo : Nat} {ret : Option FieldType} {o : Option Value}
theorem g_cont {u : Nat} {Gu : GG} {Mu : Mm} {H : Heap} {locs : List Loc} {ls : Array Slot} {S1 : List Value} {aa : Array Value} {F : Heap → List Loc → Prop} (hS : va_S (A9 s) s.heap H locs) (hA : ∀ q, AU u Gu q → A9 s q) (hl : lv_has ls nL L) (hr : va_Run p l e R s m args below meth c H locs cells slots 0 0 (F0 m pc ls S1) S (QC u Gu o Mu aa) (AU u Gu))
    (hF : ∀ H1 locs1, Rp u Gu Mu H1 → va_S (A9 s) s.heap H1 locs1 → (∀ q, q < H.size → ¬ AU u Gu q → H1[q]? = H[q]?) → F H1 locs1)
    (h : Zg p l e R s m args below meth c nL Q cells slots F (pc + 3) L (o.toList ++ S)) : W p l e R s m args below meth c H locs cells slots Q (F0 m pc ls S1) := by
  intro T hT X
  obtain ⟨v, st₀, t, T', L9, h0, X', hL, e1, e2, ⟨hv, hP2, hz, hk⟩, st⟩ := hr T hT X
  cases hv
  rw [h0] at hz hk
  have hS2 : va_S (A9 s) s.heap T'.heap (locs ++ L9) := ⟨Nat.le_trans hS.1 (by rw [e1]; exact hz), fun q h1 h2 => by rw [e1, hk q (Nat.lt_of_lt_of_le h1 hS.1) (fun z => h2 (hA q z))]; exact hS.2.1 q h1 h2, fun q hq => by
      rcases List.mem_append.mp hq with h | h
      · exact hS.2.2 q h
      · exact hA _ (hL q h)⟩
  obtain ⟨t2, a1, b1⟩ := h T'.heap (locs ++ L9) ls (hF _ _ (by rw [e1]; exact hP2) hS2 (fun q h1 h2 => by rw [e1]; exact hk q h1 h2)) hl T' rfl X'
  exact ⟨t2, st t2 a1, b1⟩
theorem AU0 (hg : LG s G G1) : ∀ q, AU 0 G q → A9 s q := fun q h => by
  show s.heap.size ≤ q
  have := h.1
  rw [hg.1] at this
  exact Nat.le_trans (Nat.le_add_right _ _) this
theorem AU1 (hg : LG s G G1) : ∀ q, AU 1 G1 q → A9 s q := fun q h => by
  show s.heap.size ≤ q
  have := h.1
  rw [hg.2.1] at this
  exact Nat.le_trans (Nat.le_trans (Nat.le_add_right _ _) (Nat.le_add_right _ _)) this
/-- a call of the class -/
theorem g_cX (C : GX p s m args c cc nL own) (hg : LG s G G1) (hcs : cells ≤ R.cells ∧ slots ≤ R.slots) (hM : CT l 0 G y bytes maxL ret fr lo (.ref (gB G + 0) :: As) M o M2) (w1 : Cond.code y bytes maxL ret ∈ TB) (w2 : Cond.methodLink own idx y ∈ TB) (w3 : Cond.instanceMethod y ∈ TB) (w4 : Cond.selects RX11 y y ∈ TB) (w5 : Cond.initialized y.cls ∈ TB)
    (hy : y.cls ≠ "java/lang/invoke/MethodHandle" ∧ y.cls ≠ "java/lang/invoke/VarHandle" ∧ (parseMethodDescriptor y.desc).map (fun d => d.parameters.length) = some n) (hR : fr + 1 ≤ R.frames ∧ 8 + (maxL + 11) + lo ≤ R.locals) (hn : As.length = n) (hst : S0 = As.reverse ++ .ref (gB G + 0) :: S) (hW : (S.map fun v => v.category).sum ≤ 8) (hd : DD cc pc (.invokevirtual idx) 3 pc')
    (h : Zg p l e R s m args below meth c nL Q cells slots (FL s G G1 M2 N) pc' L (o.toList ++ S)) : Zg p l e R s m args below meth c nL Q cells slots (FL s G G1 M N) pc L S0 := by
  obtain ⟨d, rfl⟩ := hd
  rintro H locs ls ⟨hP, hN, hS⟩ hl
  have ht := C.2.2.2.2
  have hcw : CallW R s args own RX11 idx y bytes maxL ret (.code y bytes maxL ret :: TB) { frames := fr, cells := 0, slots := 0, locals := lo } 0 0 n := ⟨callB_of n ht (TB_call w1) rfl rfl rfl (ht _ w5) (ht _ w2) hy hR, ht _ w3, ht _ w4⟩
  refine g_cont hS (AU0 hg) hl (va_runV (As := As) (rest := S) (b := gB G + 0) (nL := nL) (C := RX11) ⟨C.1, C.2.1, C.2.2.1, C.2.2.2.1, ht⟩ hM hcw ⟨PC_blind, va_recv (ci := 11) hg.2.2.1.1 hP rfl ((cw_at (show wlo 0 ≤ 0 by decide) (show 0 < whi 0 by decide)).trans (by unfold EU; rw [E_11 (by decide +kernel)])), fun U hU hW => ⟨rfl, by rw [hU]; exact hP, hg.2.2.1.law hS hW hU⟩⟩ rfl hn hl.1 hst (lv_room hW) d hcs) (fun H1 locs1 hP1 hS1 hk => ⟨hP1, hN.kept (fun q q1 q2 q3 => hk q q1 (fun z => ?_)), hS1⟩) h
  have z2 := z.2
  rw [hg.1] at z2
  rw [hg.2.1] at q2
  have : whi 0 = 213 := rfl
  have : wlo 1 = 0 := rfl
  omega
/-- a call of the reference -/
theorem g_cY (C : GX p s m args c cc nL own) (hg : LG s G G1) (hcs : cells ≤ R.cells ∧ slots ≤ R.slots) (hM : CT l 1 G1 y bytes maxL ret fr lo (.ref (gB G1 + 0) :: As) N o N2) (w1 : Cond.code y bytes maxL ret ∈ TB) (w2 : Cond.methodLink own idx y ∈ TB) (w3 : Cond.instanceMethod y ∈ TB) (w4 : Cond.selects RX12 y y ∈ TB) (w5 : Cond.initialized y.cls ∈ TB)
    (hy : y.cls ≠ "java/lang/invoke/MethodHandle" ∧ y.cls ≠ "java/lang/invoke/VarHandle" ∧ (parseMethodDescriptor y.desc).map (fun d => d.parameters.length) = some n) (hR : fr + 1 ≤ R.frames ∧ 8 + (maxL + 11) + lo ≤ R.locals) (hn : As.length = n) (hst : S0 = As.reverse ++ .ref (gB G1 + 0) :: S) (hW : (S.map fun v => v.category).sum ≤ 8) (hd : DD cc pc (.invokevirtual idx) 3 pc')
    (h : Zg p l e R s m args below meth c nL Q cells slots (FL s G G1 M N2) pc' L (o.toList ++ S)) : Zg p l e R s m args below meth c nL Q cells slots (FL s G G1 M N) pc L S0 := by
  obtain ⟨d, rfl⟩ := hd
  rintro H locs ls ⟨hP, hN, hS⟩ hl
  have ht := C.2.2.2.2
  have hcw : CallW R s args own RX12 idx y bytes maxL ret (.code y bytes maxL ret :: TB) { frames := fr, cells := 0, slots := 0, locals := lo } 0 0 n := ⟨callB_of n ht (TB_call w1) rfl rfl rfl (ht _ w5) (ht _ w2) hy hR, ht _ w3, ht _ w4⟩
  refine g_cont hS (AU1 hg) hl (va_runV (As := As) (rest := S) (b := gB G1 + 0) (nL := nL) (C := RX12) ⟨C.1, C.2.1, C.2.2.1, C.2.2.2.1, ht⟩ hM hcw ⟨PC_blind, va_recv (ci := 12) hg.2.2.2.1 hN rfl ((cw_at (show wlo 1 ≤ 0 by decide) (show 0 < whi 1 by decide)).trans (by unfold EU; rw [eY_0])), fun U hU hW => ⟨rfl, by rw [hU]; exact hN, hg.2.2.2.law hS hW hU⟩⟩ rfl hn hl.1 hst (lv_room hW) d hcs) (fun H1 locs1 hP1 hS1 hk => ⟨hP.kept (fun q q1 q2 q3 => hk q q1 (fun z => ?_)), hP1, hS1⟩) h
  have z2 := z.1
  rw [hg.2.1] at z2
  rw [hg.1] at q3
  have : whi 0 = 213 := rfl
  have : wlo 1 = 0 := rfl
  omega
/-- the script -/
theorem g_sld {b Ln : Nat} {xs : Nat → Int32} {i : Int32} (C : GX p s m args c cc nL own) (hX : va_X b Ln xs s s.heap) (hb : b < s.heap.size) (hi : inn i Ln) (hd : DD cc pc .iaload 1 pc') (h : Zg p l e R s m args below meth c nL Q cells slots (FL s G G1 M N) pc' L (.int (xs i.toNatClampNeg) :: S)) : Zg p l e R s m args below meth c nL Q cells slots (FL s G G1 M N) pc L (.int i :: .ref b :: S) := by
  obtain ⟨d, rfl⟩ := hd
  exact fun H locs ls hF hl => va_sld C.1 C.2.1 hX hb (Nat.not_le.mpr hb) hF.2.2 hi d (h H locs ls hF hl)
theorem g_slen {b Ln : Nat} {xs : Nat → Int32} (C : GX p s m args c cc nL own) (hX : va_X b Ln xs s s.heap) (hb : b < s.heap.size) (hd : DD cc pc .arraylength 1 pc') (h : Zg p l e R s m args below meth c nL Q cells slots (FL s G G1 M N) pc' L (.int (nI Ln) :: S)) : Zg p l e R s m args below meth c nL Q cells slots (FL s G G1 M N) pc L (.ref b :: S) := by
  obtain ⟨d, rfl⟩ := hd
  exact fun H locs ls hF hl => va_slen C.1 C.2.1 hX hb (Nat.not_le.mpr hb) hF.2.2 d (h H locs ls hF hl)
end ZL
