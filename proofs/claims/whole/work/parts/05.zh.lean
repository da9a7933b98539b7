-- THE JUDGEMENT Z, ON THE HEAP, AND CALLS
section ZH
variable {p : Program} {l : Launch} {e : Env} {R : Room} {s : State} {m : MethodId} {args : Array Value} {below : List Frame} {meth : Method} {c : Code} {u : Nat} {G : GG} {nL : Nat} {Q : State → Prop} {pc pc' : Nat} {L L' : List (Nat × Value)} {S : List Value} {M M2 : Mm} {cc : ByteArray} {own : String} {a : Nat}
theorem EU_wI {b k : Nat} {x : Int32} (h : b ≠ a) : EU u G (wI M a k x) b = EU u G M b := by
  unfold EU
  rw [wI_ne h]
  rfl
theorem EU_wJ {b k : Nat} {x : Int64} (h : b ≠ a) : EU u G (wJ M a k x) b = EU u G M b := by
  unfold EU
  rw [wJ_ne h]
  rfl
theorem EU_wR {b : Nat} {f : Nat → Int32} (h : b ≠ a) : EU u G (wR M a f) b = EU u G M b := by
  unfold EU
  rw [wR_ne h]
  rfl
theorem z_get {Cn : String} {T : u_T} {N ci idx k : Nat} {fs : List Value} {v : Value} (C : CX p s m args c cc nL own u G) (hE : EV u G a (M.1 a) (M.2 a) = .inr (ci, fs)) (ha : inW u a) (hc : vwCl[ci]? = some (Cn, T, N)) (hin : ∀ w ∈ u_ws Cn T N, w ∈ TB) (hk : k < N) (hw : Cond.fieldLink own idx (T k).1 (T k).2.1 (T k).2.2.1 ∈ TB) (hv : fs[k]? = some v) (hd : DD cc pc (.getfield idx) 3 pc')
    (h : Z p l e R s m args below meth c u G nL Q pc' L (v :: S) M) : Z p l e R s m args below meth c u G nL Q pc L (.ref (gB G + a) :: S) M := by
  obtain ⟨d, rfl⟩ := hd
  intro H locs ls hP hS hl
  exact va_get (ws := cw (gB G) (wlo u) (whi u) (EU u G M)) (fs := fs) C.1 C.2.1 C.2.2.2.2.1 hin C.2.2.2.1 C.2.2.2.2.2.1 hP (a - wlo u) ((cw_at ha.1 ha.2).trans (by unfold EU; rw [hE])) hc k hk (C.2.2.2.2.1 _ hw) (fun _ h9 => h9) hv d (h H locs ls hP hS hl)
theorem z_put {Cn : String} {T : u_T} {N ci idx k : Nat} {fs : List Value} {v : Value} {ty : FieldType} (C : CX p s m args c cc nL own u G) (hE : EV u G a (M.1 a) (M.2 a) = .inr (ci, fs)) (hE2 : EU u G M2 a = .inr (ci, fs.set k v)) (hne : ∀ b, b ≠ a → EU u G M2 b = EU u G M b) (ha : inW u a) (hc : vwCl[ci]? = some (Cn, T, N)) (hin : ∀ w ∈ u_ws Cn T N, w ∈ TB) (ty0 : Nat → FieldType) (hty : ∀ k, k < N → parseFieldDescriptor (T k).2.2.1 = some (ty0 k)) (hnm : ∀ a, a < N → ∀ b, b < N → a ≠ b → (T a).2.1 ≠ (T b).2.1) (hk : k < N) (hw : Cond.fieldLink own idx (T k).1 (T k).2.1 (T k).2.2.1 ∈ TB) (hfin : (T k).2.2.2 = false) (hd0 : parseFieldDescriptor (T k).2.2.1 = some ty) (hn : narrow ty v = v) (hfit : fits ty v = true) (hl0 : k < fs.length) (hd : DD cc pc (.putfield idx) 3 pc')
    (h : Z p l e R s m args below meth c u G nL Q pc' L S M2) : Z p l e R s m args below meth c u G nL Q pc L (v :: .ref (gB G + a) :: S) M := by
  obtain ⟨d, rfl⟩ := hd
  intro H locs ls hP hS hl
  refine va_put (ws := cw (gB G) (wlo u) (whi u) (EU u G M)) (fs := fs) C.1 C.2.1 C.2.2.2.2.1 hin ty0 hty hnm C.2.2.2.1 C.2.2.2.2.2.1 hP cw_D hS (a - wlo u) ((cw_at ha.1 ha.2).trans (by unfold EU; rw [hE])) hc k hk (C.2.2.2.2.1 _ hw) (fun _ h9 => h9) hfin hd0 hn hfit hl0 d (fun H1 locs1 hP1 _ hS1 => ?_)
  rw [cw_set ha.1 hne hE2] at hP1
  exact h H1 locs1 ls hP1 hS1 hl
theorem z_ald {n : Nat} {i : Int32} {f : Nat → Int32} (hE : EV u G a (M.1 a) (M.2 a) = .inl (gC G 0, n, .inl f)) (C : CX p s m args c cc nL own u G) (ha : inW u a) (hi : vp_in i n) (hd : DD cc pc .iaload 1 pc') (h : Z p l e R s m args below meth c u G nL Q pc' L (.int (f i.toNatClampNeg) :: S) M) : Z p l e R s m args below meth c u G nL Q pc L (.int i :: .ref (gB G + a) :: S) M := by
  obtain ⟨d, rfl⟩ := hd
  intro H locs ls hP hS hl
  exact va_iald (ws := cw (gB G) (wlo u) (whi u) (EU u G M)) C.1 C.2.1 C.2.2.2.2.2.1 hP (a - wlo u) 0 ((cw_at ha.1 ha.2).trans (by unfold EU; rw [hE])) rfl hi d (h H locs ls hP hS hl)
theorem z_bld {n : Nat} {i : Int32} {f : Nat → Int32} (hE : EV u G a (M.1 a) (M.2 a) = .inl (gC G 1, n, .inl f)) (C : CX p s m args c cc nL own u G) (ha : inW u a) (hi : vp_in i n) (hd : DD cc pc .baload 1 pc') (h : Z p l e R s m args below meth c u G nL Q pc' L (.int (f i.toNatClampNeg) :: S) M) : Z p l e R s m args below meth c u G nL Q pc L (.int i :: .ref (gB G + a) :: S) M := by
  obtain ⟨d, rfl⟩ := hd
  intro H locs ls hP hS hl
  exact va_bald (ws := cw (gB G) (wlo u) (whi u) (EU u G M)) C.1 C.2.1 C.2.2.2.2.2.1 hP (a - wlo u) 1 ((cw_at ha.1 ha.2).trans (by unfold EU; rw [hE])) rfl hi d (h H locs ls hP hS hl)
theorem z_zld {n : Nat} {i : Int32} {f : Nat → Int32} (hE : EV u G a (M.1 a) (M.2 a) = .inl (gC G 2, n, .inl f)) (C : CX p s m args c cc nL own u G) (ha : inW u a) (hi : vp_in i n) (hd : DD cc pc .baload 1 pc') (h : Z p l e R s m args below meth c u G nL Q pc' L (.int (f i.toNatClampNeg) :: S) M) : Z p l e R s m args below meth c u G nL Q pc L (.int i :: .ref (gB G + a) :: S) M := by
  obtain ⟨d, rfl⟩ := hd
  intro H locs ls hP hS hl
  exact va_zald (ws := cw (gB G) (wlo u) (whi u) (EU u G M)) C.1 C.2.1 C.2.2.2.2.2.1 hP (a - wlo u) 2 ((cw_at ha.1 ha.2).trans (by unfold EU; rw [hE])) rfl hi d (h H locs ls hP hS hl)
theorem z_lld {n : Nat} {i : Int32} {f : Nat → Int64} (hE : EV u G a (M.1 a) (M.2 a) = .inl (gC G 3, n, .inr (.inl f))) (C : CX p s m args c cc nL own u G) (ha : inW u a) (hi : vp_in i n) (hd : DD cc pc .laload 1 pc') (h : Z p l e R s m args below meth c u G nL Q pc' L (.long (f i.toNatClampNeg) :: S) M) : Z p l e R s m args below meth c u G nL Q pc L (.int i :: .ref (gB G + a) :: S) M := by
  obtain ⟨d, rfl⟩ := hd
  intro H locs ls hP hS hl
  exact va_lald (ws := cw (gB G) (wlo u) (whi u) (EU u G M)) C.1 C.2.1 C.2.2.2.2.2.1 hP (a - wlo u) 3 ((cw_at ha.1 ha.2).trans (by unfold EU; rw [hE])) rfl hi d (h H locs ls hP hS hl)
theorem z_rld {t n : Nat} {ty : FieldType} {i : Int32} {f : Nat → Option Nat} {b : Nat} (hE : EV u G a (M.1 a) (M.2 a) = .inl (gC G t, n, .inr (.inr (.inr (.inr f))))) (C : CX p s m args c cc nL own u G) (ha : inW u a) (ht : (tyA (gC G))[t]? = some (gC G t, ty)) (hty : ty.isReference = true) (hi : vp_in i n) (hf : f i.toNatClampNeg = some (gB G + b)) (hd : DD cc pc .aaload 1 pc') (h : Z p l e R s m args below meth c u G nL Q pc' L (.ref (gB G + b) :: S) M) : Z p l e R s m args below meth c u G nL Q pc L (.int i :: .ref (gB G + a) :: S) M := by
  obtain ⟨d, rfl⟩ := hd
  intro H locs ls hP hS hl
  have hlt : i.toNatClampNeg < n := Nat.not_le.mp fun q => hi (Or.inr q)
  have hat : (cw (gB G) (wlo u) (whi u) (EU u G M))[a - wlo u]? = some (gB G + a, .inl (gC G t, n, .inr (.inr (.inr (.inr f))))) := (cw_at ha.1 ha.2).trans (by unfold EU; rw [hE])
  exact W.aald (v := .ref (gB G + b)) (ty := ty) C.1 C.2.1 (hP (a - wlo u) _ hat) ((C.2.2.2.2.2.1.2 t _ ht).1 n (fun j => va_rf (f j))) hty (fun q => by cases q) (by show ¬ (i < 0 ∨ (arrV _ _ _).slots.size ≤ _); rw [arrV_size]; exact hi) (by show (arrV _ _ _).slots[_]? = _; rw [arrV_read _ _ hlt, hf]; rfl) rfl rfl d (h H locs ls hP hS hl)
theorem z_len {t n : Nat} {ty : FieldType} {x : (Nat → Int32) ⊕ (Nat → Int64) ⊕ (Nat → UInt32) ⊕ (Nat → UInt64) ⊕ (Nat → Option Nat)} {v : Int32} (hE : EV u G a (M.1 a) (M.2 a) = .inl (gC G t, n, x)) (C : CX p s m args c cc nL own u G) (ha : inW u a) (ht : (tyA (gC G))[t]? = some (gC G t, ty)) (hv : Int32.ofNat n = v) (hd : DD cc pc .arraylength 1 pc') (h : Z p l e R s m args below meth c u G nL Q pc' L (.int v :: S) M) : Z p l e R s m args below meth c u G nL Q pc L (.ref (gB G + a) :: S) M := by
  obtain ⟨d, rfl⟩ := hd
  intro H locs ls hP hS hl
  exact va_alen (ws := cw (gB G) (wlo u) (whi u) (EU u G M)) C.1 C.2.1 C.2.2.2.2.2.1 hP (a - wlo u) t ((cw_at ha.1 ha.2).trans (by unfold EU; rw [hE])) ht hv d (h H locs ls hP hS hl)
theorem z_ast {n : Nat} {i x : Int32} (hE : ∀ r q, EV u G a r q = .inl (gC G 0, n, .inl r)) (C : CX p s m args c cc nL own u G) (ha : inW u a) (hi : vp_in i n) (hd : DD cc pc .iastore 1 pc') (h : Z p l e R s m args below meth c u G nL Q pc' L S (wI M a i.toNatClampNeg x)) : Z p l e R s m args below meth c u G nL Q pc L (.int x :: .int i :: .ref (gB G + a) :: S) M := by
  obtain ⟨d, rfl⟩ := hd
  intro H locs ls hP hS hl
  refine va_iast (ws := cw (gB G) (wlo u) (whi u) (EU u G M)) (f := M.1 a) C.1 C.2.1 C.2.2.2.2.2.1 hP cw_D hS (a - wlo u) 0 ((cw_at ha.1 ha.2).trans (by unfold EU; rw [hE])) rfl hi d (fun H1 locs1 hP1 _ hS1 => ?_)
  rw [cw_set (E' := EU u G (wI M a i.toNatClampNeg x)) ha.1 (fun b hb => EU_wI hb) (by unfold EU; rw [hE, wI_row])] at hP1
  exact h H1 locs1 ls hP1 hS1 hl
theorem z_bst {n : Nat} {i x : Int32} (hE : ∀ r q, EV u G a r q = .inl (gC G 1, n, .inl r)) (C : CX p s m args c cc nL own u G) (ha : inW u a) (hi : vp_in i n) (hd : DD cc pc .bastore 1 pc') (h : Z p l e R s m args below meth c u G nL Q pc' L S (wI M a i.toNatClampNeg (vp_nar .byte x))) : Z p l e R s m args below meth c u G nL Q pc L (.int x :: .int i :: .ref (gB G + a) :: S) M := by
  obtain ⟨d, rfl⟩ := hd
  intro H locs ls hP hS hl
  refine va_bast (ws := cw (gB G) (wlo u) (whi u) (EU u G M)) (f := M.1 a) C.1 C.2.1 C.2.2.2.2.2.1 hP cw_D hS (a - wlo u) 1 ((cw_at ha.1 ha.2).trans (by unfold EU; rw [hE])) rfl hi d (fun H1 locs1 hP1 _ hS1 => ?_)
  rw [cw_set (E' := EU u G (wI M a i.toNatClampNeg (vp_nar .byte x))) ha.1 (fun b hb => EU_wI hb) (by unfold EU; rw [hE, wI_row])] at hP1
  exact h H1 locs1 ls hP1 hS1 hl
theorem z_zst {n : Nat} {i x : Int32} (hE : ∀ r q, EV u G a r q = .inl (gC G 2, n, .inl r)) (C : CX p s m args c cc nL own u G) (ha : inW u a) (hi : vp_in i n) (hd : DD cc pc .bastore 1 pc') (h : Z p l e R s m args below meth c u G nL Q pc' L S (wI M a i.toNatClampNeg (vp_nar .boolean x))) : Z p l e R s m args below meth c u G nL Q pc L (.int x :: .int i :: .ref (gB G + a) :: S) M := by
  obtain ⟨d, rfl⟩ := hd
  intro H locs ls hP hS hl
  refine va_zast (ws := cw (gB G) (wlo u) (whi u) (EU u G M)) (f := M.1 a) C.1 C.2.1 C.2.2.2.2.2.1 hP cw_D hS (a - wlo u) 2 ((cw_at ha.1 ha.2).trans (by unfold EU; rw [hE])) rfl hi d (fun H1 locs1 hP1 _ hS1 => ?_)
  rw [cw_set (E' := EU u G (wI M a i.toNatClampNeg (vp_nar .boolean x))) ha.1 (fun b hb => EU_wI hb) (by unfold EU; rw [hE, wI_row])] at hP1
  exact h H1 locs1 ls hP1 hS1 hl
theorem z_lst {n : Nat} {i : Int32} {x : Int64} (hE : ∀ r q, EV u G a r q = .inl (gC G 3, n, .inr (.inl q))) (C : CX p s m args c cc nL own u G) (ha : inW u a) (hi : vp_in i n) (hd : DD cc pc .lastore 1 pc') (h : Z p l e R s m args below meth c u G nL Q pc' L S (wJ M a i.toNatClampNeg x)) : Z p l e R s m args below meth c u G nL Q pc L (.long x :: .int i :: .ref (gB G + a) :: S) M := by
  obtain ⟨d, rfl⟩ := hd
  intro H locs ls hP hS hl
  refine va_last (ws := cw (gB G) (wlo u) (whi u) (EU u G M)) (f := M.2 a) C.1 C.2.1 C.2.2.2.2.2.1 hP cw_D hS (a - wlo u) 3 ((cw_at ha.1 ha.2).trans (by unfold EU; rw [hE])) rfl hi d (fun H1 locs1 hP1 _ hS1 => ?_)
  rw [cw_set (E' := EU u G (wJ M a i.toNatClampNeg x)) ha.1 (fun b hb => EU_wJ hb) (by unfold EU; rw [hE, wJ_row])] at hP1
  exact h H1 locs1 ls hP1 hS1 hl
-- returns
theorem z_iret {v : Int32} (C : CX p s m args c cc nL own u G) (hlk : meth.locks = false) (hr : meth.sig.returnType = some .int) (hd : DD cc pc .ireturn 1 pc') : Z p l e R s m args below meth c u G nL (MQ below (QC u G (some (.int v)) M) args s 0 0 (AU u G)) pc L [.int v] M := by
  obtain ⟨d, rfl⟩ := hd
  intro H locs ls hP hS hl
  exact W.iret C.1 C.2.1 hr (fun t ht _ => ⟨rfl, by rw [ht]; exact hP, hS.F ht⟩) hS.2.2 d hlk
theorem z_zret {v : Int32} {ty : FieldType} (C : CX p s m args c cc nL own u G) (hlk : meth.locks = false) (hr : meth.sig.returnType = some ty) (hn : narrow ty (.int v) = .int v) (hd : DD cc pc .ireturn 1 pc') : Z p l e R s m args below meth c u G nL (MQ below (QC u G (some (.int v)) M) args s 0 0 (AU u G)) pc L [.int v] M := by
  obtain ⟨d, rfl⟩ := hd
  intro H locs ls hP hS hl
  exact W.zret C.1 C.2.1 hr hn (fun t ht _ => ⟨rfl, by rw [ht]; exact hP, hS.F ht⟩) hS.2.2 d hlk
theorem z_lret {v : Int64} (C : CX p s m args c cc nL own u G) (hlk : meth.locks = false) (hr : meth.sig.returnType = some .long) (hd : DD cc pc .lreturn 1 pc') : Z p l e R s m args below meth c u G nL (MQ below (QC u G (some (.long v)) M) args s 0 0 (AU u G)) pc L [.long v] M := by
  obtain ⟨d, rfl⟩ := hd
  intro H locs ls hP hS hl
  exact W.lret C.1 C.2.1 hr (fun t ht _ => ⟨rfl, by rw [ht]; exact hP, hS.F ht⟩) hS.2.2 d hlk
theorem z_aret {b : Nat} {n : String} (C : CX p s m args c cc nL own u G) (hlk : meth.locks = false) (hr : meth.sig.returnType = some (.object n)) (hd : DD cc pc .areturn 1 pc') : Z p l e R s m args below meth c u G nL (MQ below (QC u G (some (.ref b)) M) args s 0 0 (AU u G)) pc L [.ref b] M := by
  obtain ⟨d, rfl⟩ := hd
  intro H locs ls hP hS hl
  exact W.aret C.1 C.2.1 hr (Or.inl ⟨n, rfl⟩) (Or.inr ⟨b, rfl⟩) (fun t ht _ => ⟨rfl, by rw [ht]; exact hP, hS.F ht⟩) hS.2.2 d hlk
theorem z_vret (C : CX p s m args c cc nL own u G) (hlk : meth.locks = false) (hr : meth.sig.returnType = none) (hd : DD cc pc .return_ 1 pc') : Z p l e R s m args below meth c u G nL (MQ below (QC u G none M) args s 0 0 (AU u G)) pc L [] M := by
  obtain ⟨d, rfl⟩ := hd
  intro H locs ls hP hS hl
  exact W.vret C.1 C.2.1 hr (fun t ht _ => ⟨rfl, by rw [ht]; exact hP, hS.F ht⟩) hS.2.2 d hlk
-- calls
theorem TB_good : GoodIn TB TB := fun _ h => ⟨h, good_of_word (List.mem_filter.mp h).2⟩
theorem TB_call {w : Cond} (h : w ∈ TB) : GoodIn TB (w :: TB) := fun _ q => (List.mem_cons.mp q).elim (fun z => by subst z; exact TB_good _ h) (TB_good _)
variable {y : MethodName} {bytes : ByteArray} {maxL n idx fr lo : Nat} {ret : Option FieldType} {av As S0 : List Value} {o : Option Value}
theorem z_cont {H : Heap} {locs : List Loc} {ls : Array Slot} {S1 : List Value} {aa : Array Value} (hS : va_S (AU u G) s.heap H locs) (hl : lv_has ls nL L) (hr : va_Run p l e R s m args below meth c H locs 0 0 0 0 (F0 m pc ls S1) S (QC u G o M2 aa) (AU u G))
    (h : Z p l e R s m args below meth c u G nL Q (pc + 3) L (o.toList ++ S) M2) : W p l e R s m args below meth c H locs 0 0 Q (F0 m pc ls S1) := by
  intro T hT X
  obtain ⟨v, st₀, t, T', L9, h0, X', hL, e1, e2, ⟨hv, hP2, hz, hk⟩, st⟩ := hr T hT X
  cases hv
  rw [h0] at hz hk
  have hS2 : va_S (AU u G) s.heap T'.heap (locs ++ L9) := ⟨Nat.le_trans hS.1 (by rw [e1]; exact hz), fun q h1 h2 => by rw [e1, hk q (Nat.lt_of_lt_of_le h1 hS.1) h2]; exact hS.2.1 q h1 h2, fun q hq => by
      rcases List.mem_append.mp hq with h | h
      · exact hS.2.2 q h
      · exact hL q h⟩
  obtain ⟨t2, a1, b1⟩ := h T'.heap (locs ++ L9) ls (by rw [e1]; exact hP2) hS2 hl T' rfl X'
  exact ⟨t2, st t2 a1, b1⟩
theorem z_V {ci : Nat} {fs : List Value} {Cn : String} {T : u_T} {N : Nat} (C : CX p s m args c cc nL own u G) (hM : CT l u G y bytes maxL ret fr lo (.ref (gB G + a) :: As) M o M2) (hE : EV u G a (M.1 a) (M.2 a) = .inr (ci, fs)) (ha : inW u a) (hc : vwCl[ci]? = some (Cn, T, N)) (w1 : Cond.code y bytes maxL ret ∈ TB) (w2 : Cond.methodLink own idx y ∈ TB) (w3 : Cond.instanceMethod y ∈ TB) (w4 : Cond.selects Cn y y ∈ TB) (w5 : Cond.initialized y.cls ∈ TB)
    (hy : y.cls ≠ "java/lang/invoke/MethodHandle" ∧ y.cls ≠ "java/lang/invoke/VarHandle" ∧ (parseMethodDescriptor y.desc).map (fun d => d.parameters.length) = some n) (hR : fr + 1 ≤ R.frames ∧ 8 + (maxL + 11) + lo ≤ R.locals) (hn : As.length = n) (hst : S0 = As.reverse ++ .ref (gB G + a) :: S) (hW : (S.map fun v => v.category).sum ≤ 8) (hd : DD cc pc (.invokevirtual idx) 3 pc')
    (h : Z p l e R s m args below meth c u G nL Q pc' L (o.toList ++ S) M2) : Z p l e R s m args below meth c u G nL Q pc L S0 M := by
  obtain ⟨d, rfl⟩ := hd
  intro H locs ls hP hS hl
  have ht := C.2.2.2.2.1
  have hcw : CallW R s args own Cn idx y bytes maxL ret (.code y bytes maxL ret :: TB) { frames := fr, cells := 0, slots := 0, locals := lo } 0 0 n := ⟨callB_of n ht (TB_call w1) rfl rfl rfl (ht _ w5) (ht _ w2) hy hR, ht _ w3, ht _ w4⟩
  refine z_cont hS hl (va_runV (As := As) (rest := S) (b := gB G + a) (nL := nL) (C := Cn) ⟨C.1, C.2.1, C.2.2.1, C.2.2.2.1, ht⟩ hM hcw ⟨PC_blind, va_recv C.2.2.2.2.2.1 hP hc ((cw_at ha.1 ha.2).trans (by unfold EU; rw [hE])), fun U hU hW => ⟨rfl, by rw [hU]; exact hP, C.2.2.2.2.2.go hS hW hU⟩⟩ rfl hn hl.1 hst (lv_room hW) d ⟨Nat.zero_le _, Nat.zero_le _⟩) h
theorem z_S (C : CX p s m args c cc nL own u G) (hM : CT l u G y bytes maxL ret fr lo As M o M2) (w1 : Cond.code y bytes maxL ret ∈ TB) (w2 : Cond.methodLink own idx y ∈ TB) (w3 : Cond.static y ∈ TB) (w5 : Cond.initialized y.cls ∈ TB)
    (hy : y.cls ≠ "java/lang/invoke/MethodHandle" ∧ y.cls ≠ "java/lang/invoke/VarHandle" ∧ (parseMethodDescriptor y.desc).map (fun d => d.parameters.length) = some n) (hR : fr + 1 ≤ R.frames ∧ 8 + (maxL + 11) + lo ≤ R.locals) (hn : As.length = n) (hst : S0 = As.reverse ++ S) (hW : (S.map fun v => v.category).sum ≤ 8) (hd : DD cc pc (.invokestatic idx) 3 pc')
    (h : Z p l e R s m args below meth c u G nL Q pc' L (o.toList ++ S) M2) : Z p l e R s m args below meth c u G nL Q pc L S0 M := by
  obtain ⟨d, rfl⟩ := hd
  intro H locs ls hP hS hl
  have ht := C.2.2.2.2.1
  refine z_cont hS hl (va_runS (As := As) (rest := S) (nL := nL) (bytes := bytes) (maxL := maxL) (ret := ret) ⟨C.1, C.2.1, C.2.2.1, C.2.2.2.1, ht⟩ hM ⟨callB_of n ht (TB_call w1) rfl rfl rfl (ht _ w5) (ht _ w2) hy hR, ht _ w3⟩ ⟨PC_blind, fun U hU hW => ⟨rfl, by rw [hU]; exact hP, C.2.2.2.2.2.go hS hW hU⟩⟩ rfl hn hl.1 hst (lv_room hW) d ⟨Nat.zero_le _, Nat.zero_le _⟩) h
theorem z_SN {host : String} (C : CX p s m args c cc nL own 0 G) (hM : CT l 0 G y bytes maxL ret fr lo As M o M2) (w1 : Cond.code y bytes maxL ret ∈ TB) (w2 : (own, idx, y, host) ∈ nestL) (w3 : Cond.static y ∈ TB) (w5 : Cond.initialized y.cls ∈ TB)
    (hy : y.cls ≠ "java/lang/invoke/MethodHandle" ∧ y.cls ≠ "java/lang/invoke/VarHandle" ∧ (parseMethodDescriptor y.desc).map (fun d => d.parameters.length) = some n) (hR : fr + 1 ≤ R.frames ∧ 8 + (maxL + 11) + lo ≤ R.locals) (hn : As.length = n) (hst : S0 = As.reverse ++ S) (hW : (S.map fun v => v.category).sum ≤ 8) (hd : DD cc pc (.invokestatic idx) 3 pc')
    (h : Z p l e R s m args below meth c 0 G nL Q pc' L (o.toList ++ S) M2) : Z p l e R s m args below meth c 0 G nL Q pc L S0 M := by
  obtain ⟨d, rfl⟩ := hd
  intro H locs ls hP hS hl
  have ht := C.2.2.2.2.1
  refine z_cont hS hl (va_runSN (As := As) (rest := S) (nL := nL) (host := host) (bytes := bytes) (maxL := maxL) (ret := ret) ⟨C.1, C.2.1, C.2.2.1, C.2.2.2.1, ht⟩ hM ⟨va_cnB n ht (TB_call w1) rfl rfl rfl ((C.2.2.2.2.2.2 rfl).1 _ w2) (ht _ w5) hy hR, ht _ w3, trivial⟩ ⟨PC_blind, fun U hU hW => ⟨rfl, by rw [hU]; exact hP, C.2.2.2.2.2.go hS hW hU⟩⟩ rfl hn hl.1 hst (lv_room hW) d ⟨Nat.zero_le _, Nat.zero_le _⟩) h
end ZH
