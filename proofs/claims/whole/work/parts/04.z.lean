-- THE JUDGEMENT Z: at pc, with the locals L and the stack S, the memory being M, the machine comes to Q
/-- an instruction, and where the next one stands -/
def DD (cc : ByteArray) (pc : Nat) (i : Instr) (n pc' : Nat) : Prop := decode cc pc = .ok (i, n) ∧ pc + n = pc'
/-- a jump's target -/
def DJ (cc : ByteArray) (pc : Nat) (mk : Int → Instr) (tgt n pc' : Nat) : Prop := decode cc pc = .ok (mk ((tgt : Int) - (pc : Int)), n) ∧ pc + n = pc'
def CX (p : Program) (s : State) (m : MethodId) (args : Array Value) (c : Code) (cc : ByteArray) (nL : Nat) (own : String) (u : Nat) (G : GG) : Prop :=
  p.tables.exec = Jvm.exec ∧ c.code = cc ∧ c.maxLocals = nL ∧ s.vm.findClass own = some m.cls ∧ (∀ w ∈ TB, w.before args s = true) ∧ KK u G s
def Z (p : Program) (l : Launch) (e : Env) (R : Room) (s : State) (m : MethodId) (args : Array Value) (below : List Frame) (meth : Method) (c : Code) (u : Nat) (G : GG) (nL : Nat) (Q : State → Prop) (pc : Nat) (L : List (Nat × Value)) (S : List Value) (M : Mm) : Prop :=
  ∀ (H : Heap) (locs : List Loc) (ls : Array Slot), Rp u G M H → va_S (AU u G) s.heap H locs → lv_has ls nL L → W p l e R s m args below meth c H locs 0 0 Q (F0 m pc ls S)
/-- what a method leaves behind -/
def QC (u : Nat) (G : GG) (o : Option Value) (M : Mm) : Array Value → State → Outcome → State → Prop := fun _ st oc t => oc = .returned o ∧ Rp u G M t.heap ∧ va_F (AU u G) st t
def PC (u : Nat) (G : GG) (av : List Value) (M : Mm) : Array Value → State → Prop := va_Pc av (fun U => Rp u G M U.heap ∧ KK u G U)
/-- A CONTRACT: with the arguments av and the memory M the method returns o, and the memory is M2 -/
def CT (l : Launch) (u : Nat) (G : GG) (y : MethodName) (cc : ByteArray) (nL : Nat) (ret : Option FieldType) (fr lo : Nat) (av : List Value) (M : Mm) (o : Option Value) (M2 : Mm) : Prop :=
  Met l y (.code y cc nL ret :: TB) { frames := fr, cells := 0, slots := 0, locals := lo } (PC u G av M) (QC u G o M2) 0 0 (AU u G)
theorem PC_blind {u : Nat} {G : GG} {av : List Value} {M : Mm} : FrameBlind (PC u G av M) := fun _ _ _ _ h => ⟨h.1, h.2.1, h.2.2.calling⟩
section ZS
variable {p : Program} {l : Launch} {e : Env} {R : Room} {s : State} {m : MethodId} {args : Array Value} {below : List Frame} {meth : Method} {c : Code} {u : Nat} {G : GG} {nL : Nat} {Q : State → Prop} {pc pc' : Nat} {L L' : List (Nat × Value)} {S : List Value} {M : Mm} {cc : ByteArray} {own : String}
theorem CT.of {y : MethodName} {ret : Option FieldType} {fr lo : Nat} {av : List Value} {o : Option Value} {M2 : Mm} (hy : plainName y.cls = true) (hn : (lg_sl av).length ≤ nL) (hL : lv_args 0 av = L)
    (body : ∀ (p : Program) (e : Env) (s : State) (m : MethodId) (args : Array Value) (below : List Frame) (meth : Method) (c : Code), CX p s m args c cc nL y.cls u G → meth.locks = false → meth.sig.returnType = ret →
      Z p l e { frames := fr, cells := 0, slots := 0, locals := lo } s m args below meth c u G nL (MQ below (QC u G o M2) args s 0 0 (AU u G)) 0 L [] M) : CT l u G y cc nL ret fr lo av M o M2 := by
  refine Met.ofW (cc := cc) (maxL := nL) (ret := ret) hy rfl ?_
  intro p e s m args below meth c s₁ B hml hv
  obtain ⟨rfl, hP, hK⟩ := hv
  have hts := atoms_spec (ws := .code y cc nL ret :: TB) B.pre
  rw [lg_entry_eq]
  subst hL
  exact body p e s m _ below meth c ⟨B.exec, B.bytes, hml, findClass_of_methodNamed B.named, fun w hw => hts w (List.mem_cons_of_mem _ hw), hK⟩ B.notSynchronized B.returns s.heap [] _ hP va_S.rf (lv_entry av hn)
theorem z_sub (ks : List Nat) (hl : lv_pick L ks = L') (h : Z p l e R s m args below meth c u G nL Q pc L' S M) : Z p l e R s m args below meth c u G nL Q pc L S M :=
  fun H locs ls hP hS hv => h H locs ls hP hS (lv_sub hv ks hl)
theorem z_iconst {n : Int} {v : Int32} (C : CX p s m args c cc nL own u G) (hd : DD cc pc (.iconst n) 1 pc') (hv : Int32.ofInt n = v) (h : Z p l e R s m args below meth c u G nL Q pc' L (.int v :: S) M) : Z p l e R s m args below meth c u G nL Q pc L S M := by
  obtain ⟨d, rfl⟩ := hd
  exact fun H locs ls hP hS hl => lv_iconst C.1 C.2.1 d hv (h H locs ls hP hS hl)
theorem z_bipush {n : Int} {v : Int32} (C : CX p s m args c cc nL own u G) (hd : DD cc pc (.bipush n) 2 pc') (hv : (Int8.ofInt n).toInt32 = v) (h : Z p l e R s m args below meth c u G nL Q pc' L (.int v :: S) M) : Z p l e R s m args below meth c u G nL Q pc L S M := by
  obtain ⟨d, rfl⟩ := hd
  exact fun H locs ls hP hS hl => lv_bipush C.1 C.2.1 d hv (h H locs ls hP hS hl)
theorem z_sipush {n : Int} {v : Int32} (C : CX p s m args c cc nL own u G) (hd : DD cc pc (.sipush n) 3 pc') (hv : (Int16.ofInt n).toInt32 = v) (h : Z p l e R s m args below meth c u G nL Q pc' L (.int v :: S) M) : Z p l e R s m args below meth c u G nL Q pc L S M := by
  obtain ⟨d, rfl⟩ := hd
  exact fun H locs ls hP hS hl => lv_sipush C.1 C.2.1 d hv (h H locs ls hP hS hl)
theorem z_lconst {n : Fin 2} {v : Int64} (C : CX p s m args c cc nL own u G) (hd : DD cc pc (.lconst n) 1 pc') (hv : Int64.ofNat (n : Nat) = v) (h : Z p l e R s m args below meth c u G nL Q pc' L (.long v :: S) M) : Z p l e R s m args below meth c u G nL Q pc L S M := by
  obtain ⟨d, rfl⟩ := hd
  exact fun H locs ls hP hS hl => lv_lconst C.1 C.2.1 d hv (h H locs ls hP hS hl)
theorem z_ldc2 {i : Nat} {v : Int64} (C : CX p s m args c cc nL own u G) (hw : Cond.constantLong own i v ∈ TB) (hd : DD cc pc (.ldc2_w i) 3 pc') (h : Z p l e R s m args below meth c u G nL Q pc' L (.long v :: S) M) : Z p l e R s m args below meth c u G nL Q pc L S M := by
  obtain ⟨d, rfl⟩ := hd
  exact fun H locs ls hP hS hl => lv_ldc2 C.1 C.2.1 C.2.2.2.1 (C.2.2.2.2.1 _ hw) d (h H locs ls hP hS hl)
theorem z_iload_n {k : Fin 4} {i : Nat} {x : Int32} (q : Nat) (C : CX p s m args c cc nL own u G) (hd : DD cc pc (.iload_n k) 1 pc') (hi : (k : Nat) = i) (hk : L[q]? = some (i, .int x)) (h : Z p l e R s m args below meth c u G nL Q pc' L (.int x :: S) M) : Z p l e R s m args below meth c u G nL Q pc L S M := by
  obtain ⟨d, rfl⟩ := hd
  exact fun H locs ls hP hS hl => lv_iload_n C.1 C.2.1 d hi (lv_at hl q hk) (h H locs ls hP hS hl)
theorem z_iload {i : Nat} {x : Int32} (q : Nat) (C : CX p s m args c cc nL own u G) (hd : DD cc pc (.iload i) 2 pc') (hk : L[q]? = some (i, .int x)) (h : Z p l e R s m args below meth c u G nL Q pc' L (.int x :: S) M) : Z p l e R s m args below meth c u G nL Q pc L S M := by
  obtain ⟨d, rfl⟩ := hd
  exact fun H locs ls hP hS hl => lv_iload C.1 C.2.1 d (lv_at hl q hk) (h H locs ls hP hS hl)
theorem z_lload_n {k : Fin 4} {i : Nat} {x : Int64} (q : Nat) (C : CX p s m args c cc nL own u G) (hd : DD cc pc (.lload_n k) 1 pc') (hi : (k : Nat) = i) (hk : L[q]? = some (i, .long x)) (h : Z p l e R s m args below meth c u G nL Q pc' L (.long x :: S) M) : Z p l e R s m args below meth c u G nL Q pc L S M := by
  obtain ⟨d, rfl⟩ := hd
  exact fun H locs ls hP hS hl => lv_lload_n C.1 C.2.1 d hi (lv_at hl q hk) (h H locs ls hP hS hl)
theorem z_lload {i : Nat} {x : Int64} (q : Nat) (C : CX p s m args c cc nL own u G) (hd : DD cc pc (.lload i) 2 pc') (hk : L[q]? = some (i, .long x)) (h : Z p l e R s m args below meth c u G nL Q pc' L (.long x :: S) M) : Z p l e R s m args below meth c u G nL Q pc L S M := by
  obtain ⟨d, rfl⟩ := hd
  exact fun H locs ls hP hS hl => lv_lload C.1 C.2.1 d (lv_at hl q hk) (h H locs ls hP hS hl)
theorem z_aload_n {k : Fin 4} {i x : Nat} (q : Nat) (C : CX p s m args c cc nL own u G) (hd : DD cc pc (.aload_n k) 1 pc') (hi : (k : Nat) = i) (hk : L[q]? = some (i, .ref x)) (h : Z p l e R s m args below meth c u G nL Q pc' L (.ref x :: S) M) : Z p l e R s m args below meth c u G nL Q pc L S M := by
  obtain ⟨d, rfl⟩ := hd
  exact fun H locs ls hP hS hl => lv_aload_n C.1 C.2.1 d hi (lv_at hl q hk) (h H locs ls hP hS hl)
theorem z_aload {i x : Nat} (q : Nat) (C : CX p s m args c cc nL own u G) (hd : DD cc pc (.aload i) 2 pc') (hk : L[q]? = some (i, .ref x)) (h : Z p l e R s m args below meth c u G nL Q pc' L (.ref x :: S) M) : Z p l e R s m args below meth c u G nL Q pc L S M := by
  obtain ⟨d, rfl⟩ := hd
  exact fun H locs ls hP hS hl => lv_aload C.1 C.2.1 d (lv_at hl q hk) (h H locs ls hP hS hl)
theorem z_istore_n {k : Fin 4} {i : Nat} {x : Int32} (C : CX p s m args c cc nL own u G) (hd : DD cc pc (.istore_n k) 1 pc') (hi : (k : Nat) = i) (hn : i < nL) (hl : (i, Value.int x) :: L.filter (fun q => !(q.1 == i) && !(q.1 + 1 == i && q.2.category == 2)) = L') (h : Z p l e R s m args below meth c u G nL Q pc' L' S M) : Z p l e R s m args below meth c u G nL Q pc L (.int x :: S) M := by
  obtain ⟨d, rfl⟩ := hd
  exact fun H locs ls hP hS hv => lv_istore_n C.1 C.2.1 d hi hv hn hl (fun ls hv => h H locs ls hP hS hv)
theorem z_istore {i : Nat} {x : Int32} (C : CX p s m args c cc nL own u G) (hd : DD cc pc (.istore i) 2 pc') (hn : i < nL) (hl : (i, Value.int x) :: L.filter (fun q => !(q.1 == i) && !(q.1 + 1 == i && q.2.category == 2)) = L') (h : Z p l e R s m args below meth c u G nL Q pc' L' S M) : Z p l e R s m args below meth c u G nL Q pc L (.int x :: S) M := by
  obtain ⟨d, rfl⟩ := hd
  exact fun H locs ls hP hS hv => lv_istore C.1 C.2.1 d hv hn hl (fun ls hv => h H locs ls hP hS hv)
theorem z_lstore_n {k : Fin 4} {i : Nat} {x : Int64} (C : CX p s m args c cc nL own u G) (hd : DD cc pc (.lstore_n k) 1 pc') (hi : (k : Nat) = i) (hn : i + 1 < nL) (hl : (i, Value.long x) :: L.filter (fun q => !(q.1 == i) && (!(q.1 == i + 1) && !(q.1 + 1 == i && q.2.category == 2))) = L') (h : Z p l e R s m args below meth c u G nL Q pc' L' S M) : Z p l e R s m args below meth c u G nL Q pc L (.long x :: S) M := by
  obtain ⟨d, rfl⟩ := hd
  exact fun H locs ls hP hS hv => lv_lstore_n C.1 C.2.1 d hi hv hn hl (fun ls hv => h H locs ls hP hS hv)
theorem z_lstore {i : Nat} {x : Int64} (C : CX p s m args c cc nL own u G) (hd : DD cc pc (.lstore i) 2 pc') (hn : i + 1 < nL) (hl : (i, Value.long x) :: L.filter (fun q => !(q.1 == i) && (!(q.1 == i + 1) && !(q.1 + 1 == i && q.2.category == 2))) = L') (h : Z p l e R s m args below meth c u G nL Q pc' L' S M) : Z p l e R s m args below meth c u G nL Q pc L (.long x :: S) M := by
  obtain ⟨d, rfl⟩ := hd
  exact fun H locs ls hP hS hv => lv_lstore C.1 C.2.1 d hv hn hl (fun ls hv => h H locs ls hP hS hv)
theorem z_astore_n {k : Fin 4} {i x : Nat} (C : CX p s m args c cc nL own u G) (hd : DD cc pc (.astore_n k) 1 pc') (hi : (k : Nat) = i) (hn : i < nL) (hl : (i, Value.ref x) :: L.filter (fun q => !(q.1 == i) && !(q.1 + 1 == i && q.2.category == 2)) = L') (h : Z p l e R s m args below meth c u G nL Q pc' L' S M) : Z p l e R s m args below meth c u G nL Q pc L (.ref x :: S) M := by
  obtain ⟨d, rfl⟩ := hd
  exact fun H locs ls hP hS hv => lv_astore_n C.1 C.2.1 d hi hv hn hl (fun ls hv => h H locs ls hP hS hv)
theorem z_astore {i x : Nat} (C : CX p s m args c cc nL own u G) (hd : DD cc pc (.astore i) 2 pc') (hn : i < nL) (hl : (i, Value.ref x) :: L.filter (fun q => !(q.1 == i) && !(q.1 + 1 == i && q.2.category == 2)) = L') (h : Z p l e R s m args below meth c u G nL Q pc' L' S M) : Z p l e R s m args below meth c u G nL Q pc L (.ref x :: S) M := by
  obtain ⟨d, rfl⟩ := hd
  exact fun H locs ls hP hS hv => lv_astore C.1 C.2.1 d hv hn hl (fun ls hv => h H locs ls hP hS hv)
theorem z_iinc {i : Nat} {n : Int} {x v : Int32} (q : Nat) (C : CX p s m args c cc nL own u G) (hd : DD cc pc (.iinc i n) 3 pc') (hk : L[q]? = some (i, .int x)) (hv : Int32.ofInt n = v) (hn : i < nL) (hl : (i, Value.int (x + v)) :: L.filter (fun q => !(q.1 == i) && !(q.1 + 1 == i && q.2.category == 2)) = L') (h : Z p l e R s m args below meth c u G nL Q pc' L' S M) : Z p l e R s m args below meth c u G nL Q pc L S M := by
  obtain ⟨d, rfl⟩ := hd
  subst hv
  exact fun H locs ls hP hS hv => lv_iinc (v := x + Int32.ofInt n) C.1 C.2.1 d hv (k := q) hk rfl hn hl (fun ls hv => h H locs ls hP hS hv)
theorem z_iadd {x y : Int32} (C : CX p s m args c cc nL own u G) (hd : DD cc pc .iadd 1 pc') (h : Z p l e R s m args below meth c u G nL Q pc' L (.int (x + y) :: S) M) : Z p l e R s m args below meth c u G nL Q pc L (.int y :: .int x :: S) M := by
  obtain ⟨d, rfl⟩ := hd
  exact fun H locs ls hP hS hl => lv_iadd C.1 C.2.1 d (h H locs ls hP hS hl)
theorem z_isub {x y : Int32} (C : CX p s m args c cc nL own u G) (hd : DD cc pc .isub 1 pc') (h : Z p l e R s m args below meth c u G nL Q pc' L (.int (x - y) :: S) M) : Z p l e R s m args below meth c u G nL Q pc L (.int y :: .int x :: S) M := by
  obtain ⟨d, rfl⟩ := hd
  exact fun H locs ls hP hS hl => lv_isub C.1 C.2.1 d (h H locs ls hP hS hl)
theorem z_imul {x y : Int32} (C : CX p s m args c cc nL own u G) (hd : DD cc pc .imul 1 pc') (h : Z p l e R s m args below meth c u G nL Q pc' L (.int (x * y) :: S) M) : Z p l e R s m args below meth c u G nL Q pc L (.int y :: .int x :: S) M := by
  obtain ⟨d, rfl⟩ := hd
  exact fun H locs ls hP hS hl => lv_imul C.1 C.2.1 d (h H locs ls hP hS hl)
theorem z_iand {x y : Int32} (C : CX p s m args c cc nL own u G) (hd : DD cc pc .iand 1 pc') (h : Z p l e R s m args below meth c u G nL Q pc' L (.int (x &&& y) :: S) M) : Z p l e R s m args below meth c u G nL Q pc L (.int y :: .int x :: S) M := by
  obtain ⟨d, rfl⟩ := hd
  exact fun H locs ls hP hS hl => lv_iand C.1 C.2.1 d (h H locs ls hP hS hl)
theorem z_ior {x y : Int32} (C : CX p s m args c cc nL own u G) (hd : DD cc pc .ior 1 pc') (h : Z p l e R s m args below meth c u G nL Q pc' L (.int (x ||| y) :: S) M) : Z p l e R s m args below meth c u G nL Q pc L (.int y :: .int x :: S) M := by
  obtain ⟨d, rfl⟩ := hd
  exact fun H locs ls hP hS hl => lv_ior C.1 C.2.1 d (h H locs ls hP hS hl)
theorem z_ixor {x y : Int32} (C : CX p s m args c cc nL own u G) (hd : DD cc pc .ixor 1 pc') (h : Z p l e R s m args below meth c u G nL Q pc' L (.int (x ^^^ y) :: S) M) : Z p l e R s m args below meth c u G nL Q pc L (.int y :: .int x :: S) M := by
  obtain ⟨d, rfl⟩ := hd
  exact fun H locs ls hP hS hl => lv_ixor C.1 C.2.1 d (h H locs ls hP hS hl)
theorem z_ishl {x y : Int32} (C : CX p s m args c cc nL own u G) (hd : DD cc pc .ishl 1 pc') (h : Z p l e R s m args below meth c u G nL Q pc' L (.int (x <<< (y &&& 31)) :: S) M) : Z p l e R s m args below meth c u G nL Q pc L (.int y :: .int x :: S) M := by
  obtain ⟨d, rfl⟩ := hd
  exact fun H locs ls hP hS hl => lv_ishl C.1 C.2.1 d (h H locs ls hP hS hl)
theorem z_ishr {x y : Int32} (C : CX p s m args c cc nL own u G) (hd : DD cc pc .ishr 1 pc') (h : Z p l e R s m args below meth c u G nL Q pc' L (.int (x >>> (y &&& 31)) :: S) M) : Z p l e R s m args below meth c u G nL Q pc L (.int y :: .int x :: S) M := by
  obtain ⟨d, rfl⟩ := hd
  exact fun H locs ls hP hS hl => lv_ishr C.1 C.2.1 d (h H locs ls hP hS hl)
theorem z_idiv {x y : Int32} (C : CX p s m args c cc nL own u G) (hd : DD cc pc .idiv 1 pc') (hne : ¬ y = 0) (h : Z p l e R s m args below meth c u G nL Q pc' L (.int (x / y) :: S) M) : Z p l e R s m args below meth c u G nL Q pc L (.int y :: .int x :: S) M := by
  obtain ⟨d, rfl⟩ := hd
  exact fun H locs ls hP hS hl => lv_idiv C.1 C.2.1 d hne (h H locs ls hP hS hl)
theorem z_irem {x y : Int32} (C : CX p s m args c cc nL own u G) (hd : DD cc pc .irem 1 pc') (hne : ¬ y = 0) (h : Z p l e R s m args below meth c u G nL Q pc' L (.int (x - x / y * y) :: S) M) : Z p l e R s m args below meth c u G nL Q pc L (.int y :: .int x :: S) M := by
  obtain ⟨d, rfl⟩ := hd
  exact fun H locs ls hP hS hl => lv_irem C.1 C.2.1 d hne (h H locs ls hP hS hl)
theorem z_ladd {x y : Int64} (C : CX p s m args c cc nL own u G) (hd : DD cc pc .ladd 1 pc') (h : Z p l e R s m args below meth c u G nL Q pc' L (.long (x + y) :: S) M) : Z p l e R s m args below meth c u G nL Q pc L (.long y :: .long x :: S) M := by
  obtain ⟨d, rfl⟩ := hd
  exact fun H locs ls hP hS hl => lv_ladd C.1 C.2.1 d (h H locs ls hP hS hl)
theorem z_lsub {x y : Int64} (C : CX p s m args c cc nL own u G) (hd : DD cc pc .lsub 1 pc') (h : Z p l e R s m args below meth c u G nL Q pc' L (.long (x - y) :: S) M) : Z p l e R s m args below meth c u G nL Q pc L (.long y :: .long x :: S) M := by
  obtain ⟨d, rfl⟩ := hd
  exact fun H locs ls hP hS hl => lv_lsub C.1 C.2.1 d (h H locs ls hP hS hl)
theorem z_lmul {x y : Int64} (C : CX p s m args c cc nL own u G) (hd : DD cc pc .lmul 1 pc') (h : Z p l e R s m args below meth c u G nL Q pc' L (.long (x * y) :: S) M) : Z p l e R s m args below meth c u G nL Q pc L (.long y :: .long x :: S) M := by
  obtain ⟨d, rfl⟩ := hd
  exact fun H locs ls hP hS hl => lv_lmul C.1 C.2.1 d (h H locs ls hP hS hl)
theorem z_land {x y : Int64} (C : CX p s m args c cc nL own u G) (hd : DD cc pc .land 1 pc') (h : Z p l e R s m args below meth c u G nL Q pc' L (.long (x &&& y) :: S) M) : Z p l e R s m args below meth c u G nL Q pc L (.long y :: .long x :: S) M := by
  obtain ⟨d, rfl⟩ := hd
  exact fun H locs ls hP hS hl => lv_land C.1 C.2.1 d (h H locs ls hP hS hl)
theorem z_lor {x y : Int64} (C : CX p s m args c cc nL own u G) (hd : DD cc pc .lor 1 pc') (h : Z p l e R s m args below meth c u G nL Q pc' L (.long (x ||| y) :: S) M) : Z p l e R s m args below meth c u G nL Q pc L (.long y :: .long x :: S) M := by
  obtain ⟨d, rfl⟩ := hd
  exact fun H locs ls hP hS hl => lv_lor C.1 C.2.1 d (h H locs ls hP hS hl)
theorem z_ldiv {x y : Int64} (C : CX p s m args c cc nL own u G) (hd : DD cc pc .ldiv 1 pc') (hne : ¬ y = 0) (h : Z p l e R s m args below meth c u G nL Q pc' L (.long (x / y) :: S) M) : Z p l e R s m args below meth c u G nL Q pc L (.long y :: .long x :: S) M := by
  obtain ⟨d, rfl⟩ := hd
  exact fun H locs ls hP hS hl => lv_ldiv C.1 C.2.1 d hne (h H locs ls hP hS hl)
theorem z_lrem {x y : Int64} (C : CX p s m args c cc nL own u G) (hd : DD cc pc .lrem 1 pc') (hne : ¬ y = 0) (h : Z p l e R s m args below meth c u G nL Q pc' L (.long (x - x / y * y) :: S) M) : Z p l e R s m args below meth c u G nL Q pc L (.long y :: .long x :: S) M := by
  obtain ⟨d, rfl⟩ := hd
  exact fun H locs ls hP hS hl => lv_lrem C.1 C.2.1 d hne (h H locs ls hP hS hl)
theorem z_ineg {x : Int32} (C : CX p s m args c cc nL own u G) (hd : DD cc pc .ineg 1 pc') (h : Z p l e R s m args below meth c u G nL Q pc' L (.int (0 - x) :: S) M) : Z p l e R s m args below meth c u G nL Q pc L (.int x :: S) M := by
  obtain ⟨d, rfl⟩ := hd
  exact fun H locs ls hP hS hl => lv_ineg C.1 C.2.1 d (h H locs ls hP hS hl)
theorem z_i2l {x : Int32} (C : CX p s m args c cc nL own u G) (hd : DD cc pc .i2l 1 pc') (h : Z p l e R s m args below meth c u G nL Q pc' L (.long (x.toInt64) :: S) M) : Z p l e R s m args below meth c u G nL Q pc L (.int x :: S) M := by
  obtain ⟨d, rfl⟩ := hd
  exact fun H locs ls hP hS hl => lv_i2l C.1 C.2.1 d rfl (h H locs ls hP hS hl)
theorem z_l2i {x : Int64} (C : CX p s m args c cc nL own u G) (hd : DD cc pc .l2i 1 pc') (h : Z p l e R s m args below meth c u G nL Q pc' L (.int (x.toInt32) :: S) M) : Z p l e R s m args below meth c u G nL Q pc L (.long x :: S) M := by
  obtain ⟨d, rfl⟩ := hd
  exact fun H locs ls hP hS hl => lv_l2i C.1 C.2.1 d rfl (h H locs ls hP hS hl)
theorem z_i2b {x : Int32} (C : CX p s m args c cc nL own u G) (hd : DD cc pc .i2b 1 pc') (h : Z p l e R s m args below meth c u G nL Q pc' L (.int (x.toInt8.toInt32) :: S) M) : Z p l e R s m args below meth c u G nL Q pc L (.int x :: S) M := by
  obtain ⟨d, rfl⟩ := hd
  exact fun H locs ls hP hS hl => lv_i2b C.1 C.2.1 d rfl (h H locs ls hP hS hl)
theorem z_i2s {x : Int32} (C : CX p s m args c cc nL own u G) (hd : DD cc pc .i2s 1 pc') (h : Z p l e R s m args below meth c u G nL Q pc' L (.int (x.toInt16.toInt32) :: S) M) : Z p l e R s m args below meth c u G nL Q pc L (.int x :: S) M := by
  obtain ⟨d, rfl⟩ := hd
  exact fun H locs ls hP hS hl => lv_i2s C.1 C.2.1 d rfl (h H locs ls hP hS hl)
theorem z_lushr {x : Int64} {y : Int32} (C : CX p s m args c cc nL own u G) (hd : DD cc pc .lushr 1 pc') (h : Z p l e R s m args below meth c u G nL Q pc' L (.long ((x.toUInt64 >>> (y.toInt64.toUInt64 &&& Int64.toUInt64 63)).toInt64) :: S) M) : Z p l e R s m args below meth c u G nL Q pc L (.int y :: .long x :: S) M := by
  obtain ⟨d, rfl⟩ := hd
  exact fun H locs ls hP hS hl => lv_lushr C.1 C.2.1 d rfl (h H locs ls hP hS hl)
theorem z_lshl {x : Int64} {y : Int32} (C : CX p s m args c cc nL own u G) (hd : DD cc pc .lshl 1 pc') (h : Z p l e R s m args below meth c u G nL Q pc' L (.long (x <<< (y.toInt64 &&& 63)) :: S) M) : Z p l e R s m args below meth c u G nL Q pc L (.int y :: .long x :: S) M := by
  obtain ⟨d, rfl⟩ := hd
  exact fun H locs ls hP hS hl => lv_lshl C.1 C.2.1 d rfl (h H locs ls hP hS hl)
theorem z_lshr {x : Int64} {y : Int32} (C : CX p s m args c cc nL own u G) (hd : DD cc pc .lshr 1 pc') (h : Z p l e R s m args below meth c u G nL Q pc' L (.long (x >>> (y.toInt64 &&& 63)) :: S) M) : Z p l e R s m args below meth c u G nL Q pc L (.int y :: .long x :: S) M := by
  obtain ⟨d, rfl⟩ := hd
  exact fun H locs ls hP hS hl => lv_lshr C.1 C.2.1 d rfl (h H locs ls hP hS hl)
theorem z_lcmp {x y : Int64} (C : CX p s m args c cc nL own u G) (hd : DD cc pc .lcmp 1 pc') (h : Z p l e R s m args below meth c u G nL Q pc' L (.int (lg_cmp x y) :: S) M) : Z p l e R s m args below meth c u G nL Q pc L (.long y :: .long x :: S) M := by
  obtain ⟨d, rfl⟩ := hd
  exact fun H locs ls hP hS hl => W.lcmp C.1 C.2.1 d (h H locs ls hP hS hl)
theorem z_dup {v : Value} (C : CX p s m args c cc nL own u G) (hd : DD cc pc .dup 1 pc') (hv : v.category = 1) (h : Z p l e R s m args below meth c u G nL Q pc' L (v :: v :: S) M) : Z p l e R s m args below meth c u G nL Q pc L (v :: S) M := by
  obtain ⟨d, rfl⟩ := hd
  exact fun H locs ls hP hS hl => lv_dup C.1 C.2.1 d hv (h H locs ls hP hS hl)
theorem z_pop {v : Value} (C : CX p s m args c cc nL own u G) (hd : DD cc pc .pop 1 pc') (hv : v.category = 1) (h : Z p l e R s m args below meth c u G nL Q pc' L S M) : Z p l e R s m args below meth c u G nL Q pc L (v :: S) M := by
  obtain ⟨d, rfl⟩ := hd
  exact fun H locs ls hP hS hl => lv_pop C.1 C.2.1 d hv (h H locs ls hP hS hl)
theorem z_dup2 {v w : Value} (C : CX p s m args c cc nL own u G) (hd : DD cc pc .dup2 1 pc') (hv : v.category = 1) (hw : w.category = 1) (h : Z p l e R s m args below meth c u G nL Q pc' L (v :: w :: v :: w :: S) M) : Z p l e R s m args below meth c u G nL Q pc L (v :: w :: S) M := by
  obtain ⟨d, rfl⟩ := hd
  exact fun H locs ls hP hS hl => lv_dup2_11 C.1 C.2.1 d hv hw (h H locs ls hP hS hl)
theorem z_if_eq {x : Int32} {tgt : Nat} (C : CX p s m args c cc nL own u G) (hd : DJ cc pc (fun o => .ifCond .eq o) tgt 3 pc') (kt : x = 0 → Z p l e R s m args below meth c u G nL Q tgt L S M) (kf : ¬ x = 0 → Z p l e R s m args below meth c u G nL Q pc' L S M) : Z p l e R s m args below meth c u G nL Q pc L (.int x :: S) M := by
  obtain ⟨d, rfl⟩ := hd
  exact fun H locs ls hP hS hl => lv_if_eq C.1 C.2.1 d (by omega) (fun q => kt q H locs ls hP hS hl) (fun q => kf q H locs ls hP hS hl)
theorem z_icmp_eq {x y : Int32} {tgt : Nat} (C : CX p s m args c cc nL own u G) (hd : DJ cc pc (fun o => .if_icmp .eq o) tgt 3 pc') (kt : x = y → Z p l e R s m args below meth c u G nL Q tgt L S M) (kf : ¬ x = y → Z p l e R s m args below meth c u G nL Q pc' L S M) : Z p l e R s m args below meth c u G nL Q pc L (.int y :: .int x :: S) M := by
  obtain ⟨d, rfl⟩ := hd
  exact fun H locs ls hP hS hl => lv_icmp_eq C.1 C.2.1 d (by omega) (fun q => kt q H locs ls hP hS hl) (fun q => kf q H locs ls hP hS hl)
theorem z_if_ne {x : Int32} {tgt : Nat} (C : CX p s m args c cc nL own u G) (hd : DJ cc pc (fun o => .ifCond .ne o) tgt 3 pc') (kt : ¬ x = 0 → Z p l e R s m args below meth c u G nL Q tgt L S M) (kf : x = 0 → Z p l e R s m args below meth c u G nL Q pc' L S M) : Z p l e R s m args below meth c u G nL Q pc L (.int x :: S) M := by
  obtain ⟨d, rfl⟩ := hd
  exact fun H locs ls hP hS hl => lv_if_ne C.1 C.2.1 d (by omega) (fun q => kt q H locs ls hP hS hl) (fun q => kf q H locs ls hP hS hl)
theorem z_icmp_ne {x y : Int32} {tgt : Nat} (C : CX p s m args c cc nL own u G) (hd : DJ cc pc (fun o => .if_icmp .ne o) tgt 3 pc') (kt : ¬ x = y → Z p l e R s m args below meth c u G nL Q tgt L S M) (kf : x = y → Z p l e R s m args below meth c u G nL Q pc' L S M) : Z p l e R s m args below meth c u G nL Q pc L (.int y :: .int x :: S) M := by
  obtain ⟨d, rfl⟩ := hd
  exact fun H locs ls hP hS hl => lv_icmp_ne C.1 C.2.1 d (by omega) (fun q => kt q H locs ls hP hS hl) (fun q => kf q H locs ls hP hS hl)
theorem z_if_lt {x : Int32} {tgt : Nat} (C : CX p s m args c cc nL own u G) (hd : DJ cc pc (fun o => .ifCond .lt o) tgt 3 pc') (kt : x < 0 → Z p l e R s m args below meth c u G nL Q tgt L S M) (kf : ¬ x < 0 → Z p l e R s m args below meth c u G nL Q pc' L S M) : Z p l e R s m args below meth c u G nL Q pc L (.int x :: S) M := by
  obtain ⟨d, rfl⟩ := hd
  exact fun H locs ls hP hS hl => lv_if_lt C.1 C.2.1 d (by omega) (fun q => kt q H locs ls hP hS hl) (fun q => kf q H locs ls hP hS hl)
theorem z_icmp_lt {x y : Int32} {tgt : Nat} (C : CX p s m args c cc nL own u G) (hd : DJ cc pc (fun o => .if_icmp .lt o) tgt 3 pc') (kt : x < y → Z p l e R s m args below meth c u G nL Q tgt L S M) (kf : ¬ x < y → Z p l e R s m args below meth c u G nL Q pc' L S M) : Z p l e R s m args below meth c u G nL Q pc L (.int y :: .int x :: S) M := by
  obtain ⟨d, rfl⟩ := hd
  exact fun H locs ls hP hS hl => lv_icmp_lt C.1 C.2.1 d (by omega) (fun q => kt q H locs ls hP hS hl) (fun q => kf q H locs ls hP hS hl)
theorem z_if_ge {x : Int32} {tgt : Nat} (C : CX p s m args c cc nL own u G) (hd : DJ cc pc (fun o => .ifCond .ge o) tgt 3 pc') (kt : 0 ≤ x → Z p l e R s m args below meth c u G nL Q tgt L S M) (kf : ¬ 0 ≤ x → Z p l e R s m args below meth c u G nL Q pc' L S M) : Z p l e R s m args below meth c u G nL Q pc L (.int x :: S) M := by
  obtain ⟨d, rfl⟩ := hd
  exact fun H locs ls hP hS hl => lv_if_ge C.1 C.2.1 d (by omega) (fun q => kt q H locs ls hP hS hl) (fun q => kf q H locs ls hP hS hl)
theorem z_icmp_ge {x y : Int32} {tgt : Nat} (C : CX p s m args c cc nL own u G) (hd : DJ cc pc (fun o => .if_icmp .ge o) tgt 3 pc') (kt : y ≤ x → Z p l e R s m args below meth c u G nL Q tgt L S M) (kf : ¬ y ≤ x → Z p l e R s m args below meth c u G nL Q pc' L S M) : Z p l e R s m args below meth c u G nL Q pc L (.int y :: .int x :: S) M := by
  obtain ⟨d, rfl⟩ := hd
  exact fun H locs ls hP hS hl => lv_icmp_ge C.1 C.2.1 d (by omega) (fun q => kt q H locs ls hP hS hl) (fun q => kf q H locs ls hP hS hl)
theorem z_if_gt {x : Int32} {tgt : Nat} (C : CX p s m args c cc nL own u G) (hd : DJ cc pc (fun o => .ifCond .gt o) tgt 3 pc') (kt : 0 < x → Z p l e R s m args below meth c u G nL Q tgt L S M) (kf : ¬ 0 < x → Z p l e R s m args below meth c u G nL Q pc' L S M) : Z p l e R s m args below meth c u G nL Q pc L (.int x :: S) M := by
  obtain ⟨d, rfl⟩ := hd
  exact fun H locs ls hP hS hl => lv_if_gt C.1 C.2.1 d (by omega) (fun q => kt q H locs ls hP hS hl) (fun q => kf q H locs ls hP hS hl)
theorem z_icmp_gt {x y : Int32} {tgt : Nat} (C : CX p s m args c cc nL own u G) (hd : DJ cc pc (fun o => .if_icmp .gt o) tgt 3 pc') (kt : y < x → Z p l e R s m args below meth c u G nL Q tgt L S M) (kf : ¬ y < x → Z p l e R s m args below meth c u G nL Q pc' L S M) : Z p l e R s m args below meth c u G nL Q pc L (.int y :: .int x :: S) M := by
  obtain ⟨d, rfl⟩ := hd
  exact fun H locs ls hP hS hl => lv_icmp_gt C.1 C.2.1 d (by omega) (fun q => kt q H locs ls hP hS hl) (fun q => kf q H locs ls hP hS hl)
theorem z_if_le {x : Int32} {tgt : Nat} (C : CX p s m args c cc nL own u G) (hd : DJ cc pc (fun o => .ifCond .le o) tgt 3 pc') (kt : x ≤ 0 → Z p l e R s m args below meth c u G nL Q tgt L S M) (kf : ¬ x ≤ 0 → Z p l e R s m args below meth c u G nL Q pc' L S M) : Z p l e R s m args below meth c u G nL Q pc L (.int x :: S) M := by
  obtain ⟨d, rfl⟩ := hd
  exact fun H locs ls hP hS hl => lv_if_le C.1 C.2.1 d (by omega) (fun q => kt q H locs ls hP hS hl) (fun q => kf q H locs ls hP hS hl)
theorem z_icmp_le {x y : Int32} {tgt : Nat} (C : CX p s m args c cc nL own u G) (hd : DJ cc pc (fun o => .if_icmp .le o) tgt 3 pc') (kt : x ≤ y → Z p l e R s m args below meth c u G nL Q tgt L S M) (kf : ¬ x ≤ y → Z p l e R s m args below meth c u G nL Q pc' L S M) : Z p l e R s m args below meth c u G nL Q pc L (.int y :: .int x :: S) M := by
  obtain ⟨d, rfl⟩ := hd
  exact fun H locs ls hP hS hl => lv_icmp_le C.1 C.2.1 d (by omega) (fun q => kt q H locs ls hP hS hl) (fun q => kf q H locs ls hP hS hl)
theorem z_goto {tgt : Nat} (C : CX p s m args c cc nL own u G) (hd : DJ cc pc (fun o => .goto o) tgt 3 pc') (h : Z p l e R s m args below meth c u G nL Q tgt L S M) : Z p l e R s m args below meth c u G nL Q pc L S M := by
  obtain ⟨d, rfl⟩ := hd
  exact fun H locs ls hP hS hl => lv_goto C.1 C.2.1 d (by omega) (h H locs ls hP hS hl)
end ZS
