-- THE JUDGEMENT Zg: as Z, with any view F of the heap, and with the cells and slots that were made
def GX (p : Program) (s : State) (m : MethodId) (args : Array Value) (c : Code) (cc : ByteArray) (nL : Nat) (own : String) : Prop :=
  p.tables.exec = Jvm.exec ∧ c.code = cc ∧ c.maxLocals = nL ∧ s.vm.findClass own = some m.cls ∧ ∀ w ∈ TB, w.before args s = true
def Zg (p : Program) (l : Launch) (e : Env) (R : Room) (s : State) (m : MethodId) (args : Array Value) (below : List Frame) (meth : Method) (c : Code) (nL : Nat) (Q : State → Prop) (cells slots : Nat) (F : Heap → List Loc → Prop) (pc : Nat) (L : List (Nat × Value)) (S : List Value) : Prop :=
  ∀ (H : Heap) (locs : List Loc) (ls : Array Slot), F H locs → lv_has ls nL L → W p l e R s m args below meth c H locs cells slots Q (F0 m pc ls S)
section ZG
variable {p : Program} {l : Launch} {e : Env} {R : Room} {s : State} {m : MethodId} {args : Array Value} {below : List Frame} {meth : Method} {c : Code} {nL cells slots : Nat} {Q : State → Prop} {F : Heap → List Loc → Prop} {pc pc' : Nat} {L L' : List (Nat × Value)} {S : List Value} {cc : ByteArray} {own : String}
theorem g_iconst {n : Int} {v : Int32} (C : GX p s m args c cc nL own) (hd : DD cc pc (.iconst n) 1 pc') (hv : Int32.ofInt n = v) (h : Zg p l e R s m args below meth c nL Q cells slots F pc' L (.int v :: S)) : Zg p l e R s m args below meth c nL Q cells slots F pc L S := by
  obtain ⟨d, rfl⟩ := hd
  exact fun H locs ls hF hl => lv_iconst C.1 C.2.1 d hv (h H locs ls hF hl)
theorem g_bipush {n : Int} {v : Int32} (C : GX p s m args c cc nL own) (hd : DD cc pc (.bipush n) 2 pc') (hv : (Int8.ofInt n).toInt32 = v) (h : Zg p l e R s m args below meth c nL Q cells slots F pc' L (.int v :: S)) : Zg p l e R s m args below meth c nL Q cells slots F pc L S := by
  obtain ⟨d, rfl⟩ := hd
  exact fun H locs ls hF hl => lv_bipush C.1 C.2.1 d hv (h H locs ls hF hl)
theorem g_sipush {n : Int} {v : Int32} (C : GX p s m args c cc nL own) (hd : DD cc pc (.sipush n) 3 pc') (hv : (Int16.ofInt n).toInt32 = v) (h : Zg p l e R s m args below meth c nL Q cells slots F pc' L (.int v :: S)) : Zg p l e R s m args below meth c nL Q cells slots F pc L S := by
  obtain ⟨d, rfl⟩ := hd
  exact fun H locs ls hF hl => lv_sipush C.1 C.2.1 d hv (h H locs ls hF hl)
theorem g_ldc2 {i : Nat} {v : Int64} (hw : Cond.constantLong own i v ∈ TB) (C : GX p s m args c cc nL own) (hd : DD cc pc (.ldc2_w i) 3 pc') (h : Zg p l e R s m args below meth c nL Q cells slots F pc' L (.long v :: S)) : Zg p l e R s m args below meth c nL Q cells slots F pc L S := by
  obtain ⟨d, rfl⟩ := hd
  exact fun H locs ls hF hl => lv_ldc2 C.1 C.2.1 C.2.2.2.1 (C.2.2.2.2 _ hw) d (h H locs ls hF hl)
theorem g_iload_n {k : Fin 4} {i : Nat} {x : Int32} (q : Nat) (C : GX p s m args c cc nL own) (hd : DD cc pc (.iload_n k) 1 pc') (hi : (k : Nat) = i) (hk : L[q]? = some (i, .int x)) (h : Zg p l e R s m args below meth c nL Q cells slots F pc' L (.int x :: S)) : Zg p l e R s m args below meth c nL Q cells slots F pc L S := by
  obtain ⟨d, rfl⟩ := hd
  exact fun H locs ls hF hl => lv_iload_n C.1 C.2.1 d hi (lv_at hl q hk) (h H locs ls hF hl)
theorem g_aload_n {k : Fin 4} {i : Nat} {x : Nat} (q : Nat) (C : GX p s m args c cc nL own) (hd : DD cc pc (.aload_n k) 1 pc') (hi : (k : Nat) = i) (hk : L[q]? = some (i, .ref x)) (h : Zg p l e R s m args below meth c nL Q cells slots F pc' L (.ref x :: S)) : Zg p l e R s m args below meth c nL Q cells slots F pc L S := by
  obtain ⟨d, rfl⟩ := hd
  exact fun H locs ls hF hl => lv_aload_n C.1 C.2.1 d hi (lv_at hl q hk) (h H locs ls hF hl)
theorem g_istore_n {k : Fin 4} {i : Nat} {x : Int32} (C : GX p s m args c cc nL own) (hd : DD cc pc (.istore_n k) 1 pc') (hi : (k : Nat) = i) (hn : i < nL) (hL : (i, Value.int x) :: L.filter (fun q => !(q.1 == i) && !(q.1 + 1 == i && q.2.category == 2)) = L') (h : Zg p l e R s m args below meth c nL Q cells slots F pc' L' S) : Zg p l e R s m args below meth c nL Q cells slots F pc L (.int x :: S) := by
  obtain ⟨d, rfl⟩ := hd
  exact fun H locs ls hF hl => lv_istore_n C.1 C.2.1 d hi hl hn hL (fun ls hl => h H locs ls hF hl)
theorem g_astore_n {k : Fin 4} {i : Nat} {x : Nat} (C : GX p s m args c cc nL own) (hd : DD cc pc (.astore_n k) 1 pc') (hi : (k : Nat) = i) (hn : i < nL) (hL : (i, Value.ref x) :: L.filter (fun q => !(q.1 == i) && !(q.1 + 1 == i && q.2.category == 2)) = L') (h : Zg p l e R s m args below meth c nL Q cells slots F pc' L' S) : Zg p l e R s m args below meth c nL Q cells slots F pc L (.ref x :: S) := by
  obtain ⟨d, rfl⟩ := hd
  exact fun H locs ls hF hl => lv_astore_n C.1 C.2.1 d hi hl hn hL (fun ls hl => h H locs ls hF hl)
theorem g_iinc {i : Nat} {n : Int} {x v : Int32} (q : Nat) (C : GX p s m args c cc nL own) (hd : DD cc pc (.iinc i n) 3 pc') (hk : L[q]? = some (i, .int x)) (hv : x + Int32.ofInt n = v) (hn : i < nL) (hL : (i, Value.int v) :: L.filter (fun q => !(q.1 == i) && !(q.1 + 1 == i && q.2.category == 2)) = L') (h : Zg p l e R s m args below meth c nL Q cells slots F pc' L' S) : Zg p l e R s m args below meth c nL Q cells slots F pc L S := by
  obtain ⟨d, rfl⟩ := hd
  exact fun H locs ls hF hl => lv_iinc C.1 C.2.1 d hl (k := q) hk hv hn hL (fun ls hl => h H locs ls hF hl)
theorem g_iadd {x y : Int32} (C : GX p s m args c cc nL own) (hd : DD cc pc .iadd 1 pc') (h : Zg p l e R s m args below meth c nL Q cells slots F pc' L (.int (x + y) :: S)) : Zg p l e R s m args below meth c nL Q cells slots F pc L (.int y :: .int x :: S) := by
  obtain ⟨d, rfl⟩ := hd
  exact fun H locs ls hF hl => lv_iadd C.1 C.2.1 d (h H locs ls hF hl)
theorem g_isub {x y : Int32} (C : GX p s m args c cc nL own) (hd : DD cc pc .isub 1 pc') (h : Zg p l e R s m args below meth c nL Q cells slots F pc' L (.int (x - y) :: S)) : Zg p l e R s m args below meth c nL Q cells slots F pc L (.int y :: .int x :: S) := by
  obtain ⟨d, rfl⟩ := hd
  exact fun H locs ls hF hl => lv_isub C.1 C.2.1 d (h H locs ls hF hl)
theorem g_iand {x y : Int32} (C : GX p s m args c cc nL own) (hd : DD cc pc .iand 1 pc') (h : Zg p l e R s m args below meth c nL Q cells slots F pc' L (.int (x &&& y) :: S)) : Zg p l e R s m args below meth c nL Q cells slots F pc L (.int y :: .int x :: S) := by
  obtain ⟨d, rfl⟩ := hd
  exact fun H locs ls hF hl => lv_iand C.1 C.2.1 d (h H locs ls hF hl)
theorem g_imul {x y : Int32} (C : GX p s m args c cc nL own) (hd : DD cc pc .imul 1 pc') (h : Zg p l e R s m args below meth c nL Q cells slots F pc' L (.int (x * y) :: S)) : Zg p l e R s m args below meth c nL Q cells slots F pc L (.int y :: .int x :: S) := by
  obtain ⟨d, rfl⟩ := hd
  exact fun H locs ls hF hl => lv_imul C.1 C.2.1 d (h H locs ls hF hl)
theorem g_land {x y : Int64} (C : GX p s m args c cc nL own) (hd : DD cc pc .land 1 pc') (h : Zg p l e R s m args below meth c nL Q cells slots F pc' L (.long (x &&& y) :: S)) : Zg p l e R s m args below meth c nL Q cells slots F pc L (.long y :: .long x :: S) := by
  obtain ⟨d, rfl⟩ := hd
  exact fun H locs ls hF hl => lv_land C.1 C.2.1 d (h H locs ls hF hl)
theorem g_lor {x y : Int64} (C : GX p s m args c cc nL own) (hd : DD cc pc .lor 1 pc') (h : Zg p l e R s m args below meth c nL Q cells slots F pc' L (.long (x ||| y) :: S)) : Zg p l e R s m args below meth c nL Q cells slots F pc L (.long y :: .long x :: S) := by
  obtain ⟨d, rfl⟩ := hd
  exact fun H locs ls hF hl => lv_lor C.1 C.2.1 d (h H locs ls hF hl)
theorem g_lshl {x : Int64} {y : Int32} (C : GX p s m args c cc nL own) (hd : DD cc pc .lshl 1 pc') (h : Zg p l e R s m args below meth c nL Q cells slots F pc' L (.long (x <<< (y.toInt64 &&& 63)) :: S)) : Zg p l e R s m args below meth c nL Q cells slots F pc L (.int y :: .long x :: S) := by
  obtain ⟨d, rfl⟩ := hd
  exact fun H locs ls hF hl => lv_lshl C.1 C.2.1 d rfl (h H locs ls hF hl)
theorem g_i2l {x : Int32} (C : GX p s m args c cc nL own) (hd : DD cc pc .i2l 1 pc') (h : Zg p l e R s m args below meth c nL Q cells slots F pc' L (.long (x.toInt64) :: S)) : Zg p l e R s m args below meth c nL Q cells slots F pc L (.int x :: S) := by
  obtain ⟨d, rfl⟩ := hd
  exact fun H locs ls hF hl => lv_i2l C.1 C.2.1 d rfl (h H locs ls hF hl)
theorem g_lcmp {x y : Int64} (C : GX p s m args c cc nL own) (hd : DD cc pc .lcmp 1 pc') (h : Zg p l e R s m args below meth c nL Q cells slots F pc' L (.int (lg_cmp x y) :: S)) : Zg p l e R s m args below meth c nL Q cells slots F pc L (.long y :: .long x :: S) := by
  obtain ⟨d, rfl⟩ := hd
  exact fun H locs ls hF hl => W.lcmp C.1 C.2.1 d (h H locs ls hF hl)
theorem g_dup {v : Value} (C : GX p s m args c cc nL own) (hd : DD cc pc .dup 1 pc') (hv : v.category = 1) (h : Zg p l e R s m args below meth c nL Q cells slots F pc' L (v :: v :: S)) : Zg p l e R s m args below meth c nL Q cells slots F pc L (v :: S) := by
  obtain ⟨d, rfl⟩ := hd
  exact fun H locs ls hF hl => lv_dup C.1 C.2.1 d hv (h H locs ls hF hl)
theorem g_if_eq {x : Int32} {tgt : Nat} (C : GX p s m args c cc nL own) (hd : DJ cc pc (fun o => .ifCond .eq o) tgt 3 pc') (kt : x = 0 → Zg p l e R s m args below meth c nL Q cells slots F tgt L S) (kf : ¬ x = 0 → Zg p l e R s m args below meth c nL Q cells slots F pc' L S) : Zg p l e R s m args below meth c nL Q cells slots F pc L (.int x :: S) := by
  obtain ⟨d, rfl⟩ := hd
  exact fun H locs ls hF hl => lv_if_eq C.1 C.2.1 d (by omega) (fun q => kt q H locs ls hF hl) (fun q => kf q H locs ls hF hl)
theorem g_if_ne {x : Int32} {tgt : Nat} (C : GX p s m args c cc nL own) (hd : DJ cc pc (fun o => .ifCond .ne o) tgt 3 pc') (kt : ¬ x = 0 → Zg p l e R s m args below meth c nL Q cells slots F tgt L S) (kf : x = 0 → Zg p l e R s m args below meth c nL Q cells slots F pc' L S) : Zg p l e R s m args below meth c nL Q cells slots F pc L (.int x :: S) := by
  obtain ⟨d, rfl⟩ := hd
  exact fun H locs ls hF hl => lv_if_ne C.1 C.2.1 d (by omega) (fun q => kt q H locs ls hF hl) (fun q => kf q H locs ls hF hl)
theorem g_icmp_eq {x y : Int32} {tgt : Nat} (C : GX p s m args c cc nL own) (hd : DJ cc pc (fun o => .if_icmp .eq o) tgt 3 pc') (kt : x = y → Zg p l e R s m args below meth c nL Q cells slots F tgt L S) (kf : ¬ x = y → Zg p l e R s m args below meth c nL Q cells slots F pc' L S) : Zg p l e R s m args below meth c nL Q cells slots F pc L (.int y :: .int x :: S) := by
  obtain ⟨d, rfl⟩ := hd
  exact fun H locs ls hF hl => lv_icmp_eq C.1 C.2.1 d (by omega) (fun q => kt q H locs ls hF hl) (fun q => kf q H locs ls hF hl)
theorem g_icmp_ge {x y : Int32} {tgt : Nat} (C : GX p s m args c cc nL own) (hd : DJ cc pc (fun o => .if_icmp .ge o) tgt 3 pc') (kt : y ≤ x → Zg p l e R s m args below meth c nL Q cells slots F tgt L S) (kf : ¬ y ≤ x → Zg p l e R s m args below meth c nL Q cells slots F pc' L S) : Zg p l e R s m args below meth c nL Q cells slots F pc L (.int y :: .int x :: S) := by
  obtain ⟨d, rfl⟩ := hd
  exact fun H locs ls hF hl => lv_icmp_ge C.1 C.2.1 d (by omega) (fun q => kt q H locs ls hF hl) (fun q => kf q H locs ls hF hl)
theorem g_icmp_gt {x y : Int32} {tgt : Nat} (C : GX p s m args c cc nL own) (hd : DJ cc pc (fun o => .if_icmp .gt o) tgt 3 pc') (kt : y < x → Zg p l e R s m args below meth c nL Q cells slots F tgt L S) (kf : ¬ y < x → Zg p l e R s m args below meth c nL Q cells slots F pc' L S) : Zg p l e R s m args below meth c nL Q cells slots F pc L (.int y :: .int x :: S) := by
  obtain ⟨d, rfl⟩ := hd
  exact fun H locs ls hF hl => lv_icmp_gt C.1 C.2.1 d (by omega) (fun q => kt q H locs ls hF hl) (fun q => kf q H locs ls hF hl)
theorem g_icmp_lt {x y : Int32} {tgt : Nat} (C : GX p s m args c cc nL own) (hd : DJ cc pc (fun o => .if_icmp .lt o) tgt 3 pc') (kt : x < y → Zg p l e R s m args below meth c nL Q cells slots F tgt L S) (kf : ¬ x < y → Zg p l e R s m args below meth c nL Q cells slots F pc' L S) : Zg p l e R s m args below meth c nL Q cells slots F pc L (.int y :: .int x :: S) := by
  obtain ⟨d, rfl⟩ := hd
  exact fun H locs ls hF hl => lv_icmp_lt C.1 C.2.1 d (by omega) (fun q => kt q H locs ls hF hl) (fun q => kf q H locs ls hF hl)
theorem g_goto {tgt : Nat} (C : GX p s m args c cc nL own) (hd : DJ cc pc (fun o => .goto o) tgt 3 pc') (h : Zg p l e R s m args below meth c nL Q cells slots F tgt L S) : Zg p l e R s m args below meth c nL Q cells slots F pc L S := by
  obtain ⟨d, rfl⟩ := hd
  exact fun H locs ls hF hl => lv_goto C.1 C.2.1 d (by omega) (h H locs ls hF hl)
theorem g_tsw {dflt lo hi : Int} {offs : Array Int} {len : Nat} {x : Int32} (C : GX p s m args c cc nL own) (hd : DD cc pc (.tableswitch dflt lo hi offs) len pc') {tgt : Nat} (ht : (x.toInt < lo ∨ hi < x.toInt) ∧ (pc : Int) + dflt = tgt ∨ ∃ off, ¬ x.toInt < lo ∧ ¬ hi < x.toInt ∧ offs[(x.toInt - lo).toNat]? = some off ∧ (pc : Int) + off = tgt)
    (h : Zg p l e R s m args below meth c nL Q cells slots F tgt L S) : Zg p l e R s m args below meth c nL Q cells slots F pc L (.int x :: S) := by
  obtain ⟨d, rfl⟩ := hd
  intro H locs ls hF hl
  rcases ht with ⟨h1, h2⟩ | ⟨off, h1, h2, h3, h4⟩
  · exact lv_tableOut C.1 C.2.1 d h1 h2 (h H locs ls hF hl)
  · exact lv_tableIn C.1 C.2.1 d h1 h2 h3 h4 (h H locs ls hF hl)
theorem g_F {F2 : Heap → List Loc → Prop} (hf : ∀ H locs, F H locs → F2 H locs) (h : Zg p l e R s m args below meth c nL Q cells slots F2 pc L S) : Zg p l e R s m args below meth c nL Q cells slots F pc L S := fun H locs ls hF hl => h H locs ls (hf H locs hF) hl
end ZG
