-- names, rows of fields, numbers in a row
section ZN
variable {p : Program} {l : Launch} {e : Env} {R : Room} {s : State} {m : MethodId} {args : Array Value} {below : List Frame} {meth : Method} {c : Code} {u : Nat} {G : GG} {nL : Nat} {Q : State → Prop} {pc pc' : Nat} {L L' : List (Nat × Value)} {S : List Value} {M M2 : Mm} {cc : ByteArray} {own : String} {a : Nat} {idx : Nat}
theorem z_nI {x y : Int32} (hy : y = x) (h : Z p l e R s m args below meth c u G nL Q pc L (.int y :: S) M) : Z p l e R s m args below meth c u G nL Q pc L (.int x :: S) M := hy ▸ h
theorem z_nJ {x y : Int64} (hy : y = x) (h : Z p l e R s m args below meth c u G nL Q pc L (.long y :: S) M) : Z p l e R s m args below meth c u G nL Q pc L (.long x :: S) M := hy ▸ h
theorem z_nA {x y : Nat} (hy : y = x) (h : Z p l e R s m args below meth c u G nL Q pc L (.ref (gB G + y) :: S) M) : Z p l e R s m args below meth c u G nL Q pc L (.ref (gB G + x) :: S) M := hy ▸ h
theorem z_nM {M1 : Mm} (hy : M2 = M1) (h : Z p l e R s m args below meth c u G nL Q pc L S M2) : Z p l e R s m args below meth c u G nL Q pc L S M1 := hy ▸ h
theorem z_pI {Cn : String} {T : u_T} {N ci k : Nat} {FS : (Nat → Int32) → (Nat → Int64) → List Value} {v : Value} {x : Int32} {ty : FieldType} (C : CX p s m args c cc nL own u G) (hE : ∀ r q, EV u G a r q = .inr (ci, FS r q)) (hset : ∀ r q, FS (upd r k x) q = (FS r q).set k v) (ha : inW u a) (hc : vwCl[ci]? = some (Cn, T, N)) (hin : ∀ w ∈ u_ws Cn T N, w ∈ TB) (ty0 : Nat → FieldType) (hty : ∀ k, k < N → parseFieldDescriptor (T k).2.2.1 = some (ty0 k)) (hnm : ∀ a, a < N → ∀ b, b < N → a ≠ b → (T a).2.1 ≠ (T b).2.1) (hk : k < N) (hw : Cond.fieldLink own idx (T k).1 (T k).2.1 (T k).2.2.1 ∈ TB) (hfin : (T k).2.2.2 = false) (hd0 : parseFieldDescriptor (T k).2.2.1 = some ty) (hn : narrow ty v = v) (hfit : fits ty v = true) (hl0 : k < (FS (M.1 a) (M.2 a)).length) (hd : DD cc pc (.putfield idx) 3 pc')
    (h : Z p l e R s m args below meth c u G nL Q pc' L S (wI M a k x)) : Z p l e R s m args below meth c u G nL Q pc L (v :: .ref (gB G + a) :: S) M :=
  z_put C (hE _ _) (by unfold EU; rw [hE, wI_row]; rw [hset]; rfl) (fun b hb => EU_wI hb) ha hc hin ty0 hty hnm hk hw hfin hd0 hn hfit hl0 hd h
theorem z_pJ {Cn : String} {T : u_T} {N ci k : Nat} {FS : (Nat → Int32) → (Nat → Int64) → List Value} {v : Value} {x : Int64} {ty : FieldType} (C : CX p s m args c cc nL own u G) (hE : ∀ r q, EV u G a r q = .inr (ci, FS r q)) (hset : ∀ r q, FS r (vp_updL q k x) = (FS r q).set k v) (ha : inW u a) (hc : vwCl[ci]? = some (Cn, T, N)) (hin : ∀ w ∈ u_ws Cn T N, w ∈ TB) (ty0 : Nat → FieldType) (hty : ∀ k, k < N → parseFieldDescriptor (T k).2.2.1 = some (ty0 k)) (hnm : ∀ a, a < N → ∀ b, b < N → a ≠ b → (T a).2.1 ≠ (T b).2.1) (hk : k < N) (hw : Cond.fieldLink own idx (T k).1 (T k).2.1 (T k).2.2.1 ∈ TB) (hfin : (T k).2.2.2 = false) (hd0 : parseFieldDescriptor (T k).2.2.1 = some ty) (hn : narrow ty v = v) (hfit : fits ty v = true) (hl0 : k < (FS (M.1 a) (M.2 a)).length) (hd : DD cc pc (.putfield idx) 3 pc')
    (h : Z p l e R s m args below meth c u G nL Q pc' L S (wJ M a k x)) : Z p l e R s m args below meth c u G nL Q pc L (v :: .ref (gB G + a) :: S) M :=
  z_put C (hE _ _) (by unfold EU; rw [hE, wJ_row]; rw [hset]; rfl) (fun b hb => EU_wJ hb) ha hc hin ty0 hty hnm hk hw hfin hd0 hn hfit hl0 hd h
end ZN
abbrev inn (i : Int32) (n : Nat) : Prop := ¬ (i < 0 ∨ n ≤ i.toNatClampNeg)
theorem inn_lt {i : Int32} {n : Nat} (h : inn i n) : i.toNatClampNeg < n := Nat.not_le.mp fun q => h (Or.inr q)
/-- how often a loop may go round -/
def FU : Nat := 5000
def fillI (M : Mm) (a n : Nat) (v : Int32) : Mm := wR M a (fun j => if j < n then v else M.1 a j)
def fillJ (M : Mm) (a n : Nat) (v : Int64) : Mm := wS M a (fun j => if j < n then v else M.2 a j)
theorem eY_0 {G : GG} (r : Nat → Int32) (q : Nat → Int64) : EV 1 G 0 r q = .inr (12, FX12 G r) := rfl
theorem eY_1 {G : GG} (r : Nat → Int32) (q : Nat → Int64) : EV 1 G 1 r q = .inl (gC G 0, 840, .inl r) := rfl
theorem eY_2 {G : GG} (r : Nat → Int32) (q : Nat → Int64) : EV 1 G 2 r q = .inl (gC G 0, 12, .inl r) := rfl
theorem eY_3 {G : GG} (r : Nat → Int32) (q : Nat → Int64) : EV 1 G 3 r q = .inl (gC G 0, 3, .inl r) := rfl
theorem eY_4 {G : GG} (r : Nat → Int32) (q : Nat → Int64) : EV 1 G 4 r q = .inl (gC G 0, 16, .inl r) := rfl
theorem eY_5 {G : GG} (r : Nat → Int32) (q : Nat → Int64) : EV 1 G 5 r q = .inl (gC G 0, 210, .inl r) := rfl
theorem eY_6 {G : GG} (r : Nat → Int32) (q : Nat → Int64) : EV 1 G 6 r q = .inl (gC G 0, 12, .inl r) := rfl
theorem eY_7 {G : GG} (r : Nat → Int32) (q : Nat → Int64) : EV 1 G 7 r q = .inl (gC G 0, 3, .inl r) := rfl
theorem eY_8 {G : GG} (r : Nat → Int32) (q : Nat → Int64) : EV 1 G 8 r q = .inl (gC G 0, 16, .inl r) := rfl
theorem eY_9 {G : GG} (r : Nat → Int32) (q : Nat → Int64) : EV 1 G 9 r q = .inl (gC G 0, 400, .inl r) := rfl
theorem eY_10 {G : GG} (r : Nat → Int32) (q : Nat → Int64) : EV 1 G 10 r q = .inl (gC G 0, 17, .inl r) := rfl
theorem eY_11 {G : GG} (r : Nat → Int32) (q : Nat → Int64) : EV 1 G 11 r q = .inl (gC G 0, 79, .inl r) := rfl
theorem eY_12 {G : GG} (r : Nat → Int32) (q : Nat → Int64) : EV 1 G 12 r q = .inl (gC G 0, 10, .inl r) := rfl
theorem eY_13 {G : GG} (r : Nat → Int32) (q : Nat → Int64) : EV 1 G 13 r q = .inl (gC G 0, 130, .inl r) := rfl
theorem eY_14 {G : GG} (r : Nat → Int32) (q : Nat → Int64) : EV 1 G 14 r q = .inl (gC G 0, 10, .inl r) := rfl
theorem eY_15 {G : GG} (r : Nat → Int32) (q : Nat → Int64) : EV 1 G 15 r q = .inl (gC G 2, 2, .inl r) := rfl
theorem eY_16 {G : GG} (r : Nat → Int32) (q : Nat → Int64) : EV 1 G 16 r q = .inl (gC G 0, 4, .inl r) := rfl
theorem eY_17 {G : GG} (r : Nat → Int32) (q : Nat → Int64) : EV 1 G 17 r q = .inl (gC G 0, 4, .inl r) := rfl
theorem eY_18 {G : GG} (r : Nat → Int32) (q : Nat → Int64) : EV 1 G 18 r q = .inl (gC G 0, 160, .inl r) := rfl
theorem wMs_max : Cond.static Lib.Math.max.name ∈ TB := it_3 (List.mem_of_getElem? (i := 112) rfl) rfl
theorem wMc_max : Cond.code Lib.Math.max.name Lib.Math.max.code 2 (some .int) ∈ TB := it_3 (List.mem_of_getElem? (i := 113) rfl) rfl
theorem wMs_min : Cond.static Lib.Math.min.name ∈ TB := it_4 (List.mem_of_getElem? (i := 65) rfl) rfl
theorem wMc_min : Cond.code Lib.Math.min.name Lib.Math.min.code 2 (some .int) ∈ TB := it_4 (List.mem_of_getElem? (i := 66) rfl) rfl
theorem wMs_abs : Cond.static Lib.Math.abs.name ∈ TB := it_4 (List.mem_of_getElem? (i := 27) rfl) rfl
theorem wMc_abs : Cond.code Lib.Math.abs.name Lib.Math.abs.code 1 (some .int) ∈ TB := it_4 (List.mem_of_getElem? (i := 28) rfl) rfl
theorem wMi : Cond.initialized "java/lang/Math" ∈ TB := it_1 (List.mem_of_getElem? (i := 19) rfl) rfl
theorem wAn : Cond.native arraycopyName ∈ TB := it_4 (List.mem_of_getElem? (i := 121) rfl) rfl
theorem wAs : Cond.static arraycopyName ∈ TB := it_4 (List.mem_of_getElem? (i := 120) rfl) rfl
theorem wAi : Cond.initialized "java/lang/System" ∈ TB := it_1 (List.mem_of_getElem? (i := 20) rfl) rfl
